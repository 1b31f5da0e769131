theorem d_Re_init_0 : decode b_Re_init 0 = .ok (.aload_n 0, 1) := by decide +kernel
theorem d_Re_init_1 : decode b_Re_init 1 = .ok (.invokespecial 3, 3) := by decide +kernel
theorem d_Re_init_4 : decode b_Re_init 4 = .ok (.aload_n 0, 1) := by decide +kernel
theorem d_Re_init_5 : decode b_Re_init 5 = .ok (.sipush 400, 3) := by decide +kernel
theorem d_Re_init_8 : decode b_Re_init 8 = .ok (.newarray .char, 2) := by decide +kernel
theorem d_Re_init_10 : decode b_Re_init 10 = .ok (.putfield 9, 3) := by decide +kernel
theorem d_Re_init_13 : decode b_Re_init 13 = .ok (.aload_n 0, 1) := by decide +kernel
theorem d_Re_init_14 : decode b_Re_init 14 = .ok (.sipush 401, 3) := by decide +kernel
theorem d_Re_init_17 : decode b_Re_init 17 = .ok (.anewarray 15, 3) := by decide +kernel
theorem d_Re_init_20 : decode b_Re_init 20 = .ok (.putfield 17, 3) := by decide +kernel
theorem d_Re_init_23 : decode b_Re_init 23 = .ok (.aload_n 0, 1) := by decide +kernel
theorem d_Re_init_24 : decode b_Re_init 24 = .ok (.sipush 401, 3) := by decide +kernel
theorem d_Re_init_27 : decode b_Re_init 27 = .ok (.newarray .int, 2) := by decide +kernel
theorem d_Re_init_29 : decode b_Re_init 29 = .ok (.putfield 21, 3) := by decide +kernel
theorem d_Re_init_32 : decode b_Re_init 32 = .ok (.aload_n 0, 1) := by decide +kernel
theorem d_Re_init_33 : decode b_Re_init 33 = .ok (.sipush 401, 3) := by decide +kernel
theorem d_Re_init_36 : decode b_Re_init 36 = .ok (.newarray .long, 2) := by decide +kernel
theorem d_Re_init_38 : decode b_Re_init 38 = .ok (.putfield 25, 3) := by decide +kernel
theorem d_Re_init_41 : decode b_Re_init 41 = .ok (.return_, 1) := by decide +kernel
theorem d_Re_take_0 : decode b_Re_take 0 = .ok (.bipush 24, 2) := by decide +kernel
theorem d_Re_take_2 : decode b_Re_take 2 = .ok (.istore_n 2, 1) := by decide +kernel
theorem d_Re_take_3 : decode b_Re_take 3 = .ok (.iload_n 2, 1) := by decide +kernel
theorem d_Re_take_4 : decode b_Re_take 4 = .ok (.ifCond .lt 69, 3) := by decide +kernel
theorem d_Re_take_7 : decode b_Re_take 7 = .ok (.iload_n 1, 1) := by decide +kernel
theorem d_Re_take_8 : decode b_Re_take 8 = .ok (.iload_n 2, 1) := by decide +kernel
theorem d_Re_take_9 : decode b_Re_take 9 = .ok (.iushr, 1) := by decide +kernel
theorem d_Re_take_10 : decode b_Re_take 10 = .ok (.sipush 255, 3) := by decide +kernel
theorem d_Re_take_13 : decode b_Re_take 13 = .ok (.iand, 1) := by decide +kernel
theorem d_Re_take_14 : decode b_Re_take 14 = .ok (.istore_n 3, 1) := by decide +kernel
theorem d_Re_take_15 : decode b_Re_take 15 = .ok (.iload_n 3, 1) := by decide +kernel
theorem d_Re_take_16 : decode b_Re_take 16 = .ok (.ifCond .ne 6, 3) := by decide +kernel
theorem d_Re_take_19 : decode b_Re_take 19 = .ok (.goto 48, 3) := by decide +kernel
theorem d_Re_take_22 : decode b_Re_take 22 = .ok (.iload_n 3, 1) := by decide +kernel
theorem d_Re_take_23 : decode b_Re_take 23 = .ok (.bipush 32, 2) := by decide +kernel
theorem d_Re_take_25 : decode b_Re_take 25 = .ok (.if_icmp .lt 19, 3) := by decide +kernel
theorem d_Re_take_28 : decode b_Re_take 28 = .ok (.iload_n 3, 1) := by decide +kernel
theorem d_Re_take_29 : decode b_Re_take 29 = .ok (.bipush 126, 2) := by decide +kernel
theorem d_Re_take_31 : decode b_Re_take 31 = .ok (.if_icmp .gt 13, 3) := by decide +kernel
theorem d_Re_take_34 : decode b_Re_take 34 = .ok (.aload_n 0, 1) := by decide +kernel
theorem d_Re_take_35 : decode b_Re_take 35 = .ok (.getfield 29, 3) := by decide +kernel
theorem d_Re_take_38 : decode b_Re_take 38 = .ok (.sipush 400, 3) := by decide +kernel
theorem d_Re_take_41 : decode b_Re_take 41 = .ok (.if_icmp .lt 5, 3) := by decide +kernel
theorem d_Re_take_44 : decode b_Re_take 44 = .ok (.iconst 0, 1) := by decide +kernel
theorem d_Re_take_45 : decode b_Re_take 45 = .ok (.ireturn, 1) := by decide +kernel
theorem d_Re_take_46 : decode b_Re_take 46 = .ok (.aload_n 0, 1) := by decide +kernel
theorem d_Re_take_47 : decode b_Re_take 47 = .ok (.getfield 9, 3) := by decide +kernel
theorem d_Re_take_50 : decode b_Re_take 50 = .ok (.aload_n 0, 1) := by decide +kernel
theorem d_Re_take_51 : decode b_Re_take 51 = .ok (.getfield 29, 3) := by decide +kernel
theorem d_Re_take_54 : decode b_Re_take 54 = .ok (.iload_n 3, 1) := by decide +kernel
theorem d_Re_take_55 : decode b_Re_take 55 = .ok (.i2c, 1) := by decide +kernel
theorem d_Re_take_56 : decode b_Re_take 56 = .ok (.castore, 1) := by decide +kernel
theorem d_Re_take_57 : decode b_Re_take 57 = .ok (.aload_n 0, 1) := by decide +kernel
theorem d_Re_take_58 : decode b_Re_take 58 = .ok (.dup, 1) := by decide +kernel
theorem d_Re_take_59 : decode b_Re_take 59 = .ok (.getfield 29, 3) := by decide +kernel
theorem d_Re_take_62 : decode b_Re_take 62 = .ok (.iconst 1, 1) := by decide +kernel
theorem d_Re_take_63 : decode b_Re_take 63 = .ok (.iadd, 1) := by decide +kernel
theorem d_Re_take_64 : decode b_Re_take 64 = .ok (.putfield 29, 3) := by decide +kernel
theorem d_Re_take_67 : decode b_Re_take 67 = .ok (.iinc 2 (-8), 3) := by decide +kernel
theorem d_Re_take_70 : decode b_Re_take 70 = .ok (.goto (-67), 3) := by decide +kernel
theorem d_Re_take_73 : decode b_Re_take 73 = .ok (.iconst 1, 1) := by decide +kernel
theorem d_Re_take_74 : decode b_Re_take 74 = .ok (.ireturn, 1) := by decide +kernel
theorem d_Re_isSmall_0 : decode b_Re_isSmall 0 = .ok (.iload_n 0, 1) := by decide +kernel
theorem d_Re_isSmall_1 : decode b_Re_isSmall 1 = .ok (.bipush 97, 2) := by decide +kernel
theorem d_Re_isSmall_3 : decode b_Re_isSmall 3 = .ok (.if_icmp .lt 13, 3) := by decide +kernel
theorem d_Re_isSmall_6 : decode b_Re_isSmall 6 = .ok (.iload_n 0, 1) := by decide +kernel
theorem d_Re_isSmall_7 : decode b_Re_isSmall 7 = .ok (.bipush 122, 2) := by decide +kernel
theorem d_Re_isSmall_9 : decode b_Re_isSmall 9 = .ok (.if_icmp .gt 7, 3) := by decide +kernel
theorem d_Re_isSmall_12 : decode b_Re_isSmall 12 = .ok (.iconst 1, 1) := by decide +kernel
theorem d_Re_isSmall_13 : decode b_Re_isSmall 13 = .ok (.goto 4, 3) := by decide +kernel
theorem d_Re_isSmall_16 : decode b_Re_isSmall 16 = .ok (.iconst 0, 1) := by decide +kernel
theorem d_Re_isSmall_17 : decode b_Re_isSmall 17 = .ok (.ireturn, 1) := by decide +kernel
theorem d_Re_isDigit_0 : decode b_Re_isDigit 0 = .ok (.iload_n 0, 1) := by decide +kernel
theorem d_Re_isDigit_1 : decode b_Re_isDigit 1 = .ok (.bipush 48, 2) := by decide +kernel
theorem d_Re_isDigit_3 : decode b_Re_isDigit 3 = .ok (.if_icmp .lt 13, 3) := by decide +kernel
theorem d_Re_isDigit_6 : decode b_Re_isDigit 6 = .ok (.iload_n 0, 1) := by decide +kernel
theorem d_Re_isDigit_7 : decode b_Re_isDigit 7 = .ok (.bipush 57, 2) := by decide +kernel
theorem d_Re_isDigit_9 : decode b_Re_isDigit 9 = .ok (.if_icmp .gt 7, 3) := by decide +kernel
theorem d_Re_isDigit_12 : decode b_Re_isDigit 12 = .ok (.iconst 1, 1) := by decide +kernel
theorem d_Re_isDigit_13 : decode b_Re_isDigit 13 = .ok (.goto 4, 3) := by decide +kernel
theorem d_Re_isDigit_16 : decode b_Re_isDigit 16 = .ok (.iconst 0, 1) := by decide +kernel
theorem d_Re_isDigit_17 : decode b_Re_isDigit 17 = .ok (.ireturn, 1) := by decide +kernel
theorem d_Re_isCapital_0 : decode b_Re_isCapital 0 = .ok (.iload_n 0, 1) := by decide +kernel
theorem d_Re_isCapital_1 : decode b_Re_isCapital 1 = .ok (.bipush 65, 2) := by decide +kernel
theorem d_Re_isCapital_3 : decode b_Re_isCapital 3 = .ok (.if_icmp .lt 13, 3) := by decide +kernel
theorem d_Re_isCapital_6 : decode b_Re_isCapital 6 = .ok (.iload_n 0, 1) := by decide +kernel
theorem d_Re_isCapital_7 : decode b_Re_isCapital 7 = .ok (.bipush 90, 2) := by decide +kernel
theorem d_Re_isCapital_9 : decode b_Re_isCapital 9 = .ok (.if_icmp .gt 7, 3) := by decide +kernel
theorem d_Re_isCapital_12 : decode b_Re_isCapital 12 = .ok (.iconst 1, 1) := by decide +kernel
theorem d_Re_isCapital_13 : decode b_Re_isCapital 13 = .ok (.goto 4, 3) := by decide +kernel
theorem d_Re_isCapital_16 : decode b_Re_isCapital 16 = .ok (.iconst 0, 1) := by decide +kernel
theorem d_Re_isCapital_17 : decode b_Re_isCapital 17 = .ok (.ireturn, 1) := by decide +kernel
theorem d_Re_belongs_0 : decode b_Re_belongs 0 = .ok (.iload_n 0, 1) := by decide +kernel
theorem d_Re_belongs_1 : decode b_Re_belongs 1 = .ok (.invokestatic 56, 3) := by decide +kernel
theorem d_Re_belongs_4 : decode b_Re_belongs 4 = .ok (.ifCond .eq 23, 3) := by decide +kernel
theorem d_Re_belongs_7 : decode b_Re_belongs 7 = .ok (.iload_n 1, 1) := by decide +kernel
theorem d_Re_belongs_8 : decode b_Re_belongs 8 = .ok (.invokestatic 56, 3) := by decide +kernel
theorem d_Re_belongs_11 : decode b_Re_belongs 11 = .ok (.ifCond .ne 10, 3) := by decide +kernel
theorem d_Re_belongs_14 : decode b_Re_belongs 14 = .ok (.iload_n 1, 1) := by decide +kernel
theorem d_Re_belongs_15 : decode b_Re_belongs 15 = .ok (.invokestatic 60, 3) := by decide +kernel
theorem d_Re_belongs_18 : decode b_Re_belongs 18 = .ok (.ifCond .eq 7, 3) := by decide +kernel
theorem d_Re_belongs_21 : decode b_Re_belongs 21 = .ok (.iconst 1, 1) := by decide +kernel
theorem d_Re_belongs_22 : decode b_Re_belongs 22 = .ok (.goto 4, 3) := by decide +kernel
theorem d_Re_belongs_25 : decode b_Re_belongs 25 = .ok (.iconst 0, 1) := by decide +kernel
theorem d_Re_belongs_26 : decode b_Re_belongs 26 = .ok (.ireturn, 1) := by decide +kernel
theorem d_Re_belongs_27 : decode b_Re_belongs 27 = .ok (.iload_n 0, 1) := by decide +kernel
theorem d_Re_belongs_28 : decode b_Re_belongs 28 = .ok (.invokestatic 60, 3) := by decide +kernel
theorem d_Re_belongs_31 : decode b_Re_belongs 31 = .ok (.ifCond .eq 8, 3) := by decide +kernel
theorem d_Re_belongs_34 : decode b_Re_belongs 34 = .ok (.iload_n 1, 1) := by decide +kernel
theorem d_Re_belongs_35 : decode b_Re_belongs 35 = .ok (.invokestatic 60, 3) := by decide +kernel
theorem d_Re_belongs_38 : decode b_Re_belongs 38 = .ok (.ireturn, 1) := by decide +kernel
theorem d_Re_belongs_39 : decode b_Re_belongs 39 = .ok (.iload_n 0, 1) := by decide +kernel
theorem d_Re_belongs_40 : decode b_Re_belongs 40 = .ok (.invokestatic 63, 3) := by decide +kernel
theorem d_Re_belongs_43 : decode b_Re_belongs 43 = .ok (.ifCond .eq 14, 3) := by decide +kernel
theorem d_Re_belongs_46 : decode b_Re_belongs 46 = .ok (.iload_n 1, 1) := by decide +kernel
theorem d_Re_belongs_47 : decode b_Re_belongs 47 = .ok (.invokestatic 63, 3) := by decide +kernel
theorem d_Re_belongs_50 : decode b_Re_belongs 50 = .ok (.ifCond .eq 7, 3) := by decide +kernel
theorem d_Re_belongs_53 : decode b_Re_belongs 53 = .ok (.iconst 1, 1) := by decide +kernel
theorem d_Re_belongs_54 : decode b_Re_belongs 54 = .ok (.goto 4, 3) := by decide +kernel
theorem d_Re_belongs_57 : decode b_Re_belongs 57 = .ok (.iconst 0, 1) := by decide +kernel
theorem d_Re_belongs_58 : decode b_Re_belongs 58 = .ok (.ireturn, 1) := by decide +kernel
theorem d_Re_endOf_0 : decode b_Re_endOf 0 = .ok (.aload_n 0, 1) := by decide +kernel
theorem d_Re_endOf_1 : decode b_Re_endOf 1 = .ok (.getfield 9, 3) := by decide +kernel
theorem d_Re_endOf_4 : decode b_Re_endOf 4 = .ok (.iload_n 1, 1) := by decide +kernel
theorem d_Re_endOf_5 : decode b_Re_endOf 5 = .ok (.caload, 1) := by decide +kernel
theorem d_Re_endOf_6 : decode b_Re_endOf 6 = .ok (.istore_n 2, 1) := by decide +kernel
theorem d_Re_endOf_7 : decode b_Re_endOf 7 = .ok (.iload_n 2, 1) := by decide +kernel
theorem d_Re_endOf_8 : decode b_Re_endOf 8 = .ok (.bipush 60, 2) := by decide +kernel
theorem d_Re_endOf_10 : decode b_Re_endOf 10 = .ok (.if_icmp .ne 30, 3) := by decide +kernel
theorem d_Re_endOf_13 : decode b_Re_endOf 13 = .ok (.iload_n 1, 1) := by decide +kernel
theorem d_Re_endOf_14 : decode b_Re_endOf 14 = .ok (.iconst 1, 1) := by decide +kernel
theorem d_Re_endOf_15 : decode b_Re_endOf 15 = .ok (.iadd, 1) := by decide +kernel
theorem d_Re_endOf_16 : decode b_Re_endOf 16 = .ok (.aload_n 0, 1) := by decide +kernel
theorem d_Re_endOf_17 : decode b_Re_endOf 17 = .ok (.getfield 29, 3) := by decide +kernel
theorem d_Re_endOf_20 : decode b_Re_endOf 20 = .ok (.if_icmp .ge 20, 3) := by decide +kernel
theorem d_Re_endOf_23 : decode b_Re_endOf 23 = .ok (.aload_n 0, 1) := by decide +kernel
theorem d_Re_endOf_24 : decode b_Re_endOf 24 = .ok (.getfield 9, 3) := by decide +kernel
theorem d_Re_endOf_27 : decode b_Re_endOf 27 = .ok (.iload_n 1, 1) := by decide +kernel
theorem d_Re_endOf_28 : decode b_Re_endOf 28 = .ok (.iconst 1, 1) := by decide +kernel
theorem d_Re_endOf_29 : decode b_Re_endOf 29 = .ok (.iadd, 1) := by decide +kernel
theorem d_Re_endOf_30 : decode b_Re_endOf 30 = .ok (.caload, 1) := by decide +kernel
theorem d_Re_endOf_31 : decode b_Re_endOf 31 = .ok (.bipush 62, 2) := by decide +kernel
theorem d_Re_endOf_33 : decode b_Re_endOf 33 = .ok (.if_icmp .ne 7, 3) := by decide +kernel
theorem d_Re_endOf_36 : decode b_Re_endOf 36 = .ok (.iload_n 1, 1) := by decide +kernel
theorem d_Re_endOf_37 : decode b_Re_endOf 37 = .ok (.iconst 2, 1) := by decide +kernel
theorem d_Re_endOf_38 : decode b_Re_endOf 38 = .ok (.iadd, 1) := by decide +kernel
theorem d_Re_endOf_39 : decode b_Re_endOf 39 = .ok (.ireturn, 1) := by decide +kernel
theorem d_Re_endOf_40 : decode b_Re_endOf 40 = .ok (.iload_n 1, 1) := by decide +kernel
theorem d_Re_endOf_41 : decode b_Re_endOf 41 = .ok (.iconst 1, 1) := by decide +kernel
theorem d_Re_endOf_42 : decode b_Re_endOf 42 = .ok (.iadd, 1) := by decide +kernel
theorem d_Re_endOf_43 : decode b_Re_endOf 43 = .ok (.istore_n 3, 1) := by decide +kernel
theorem d_Re_endOf_44 : decode b_Re_endOf 44 = .ok (.iload_n 3, 1) := by decide +kernel
theorem d_Re_endOf_45 : decode b_Re_endOf 45 = .ok (.aload_n 0, 1) := by decide +kernel
theorem d_Re_endOf_46 : decode b_Re_endOf 46 = .ok (.getfield 29, 3) := by decide +kernel
theorem d_Re_endOf_49 : decode b_Re_endOf 49 = .ok (.if_icmp .ge 22, 3) := by decide +kernel
theorem d_Re_endOf_52 : decode b_Re_endOf 52 = .ok (.iload_n 2, 1) := by decide +kernel
theorem d_Re_endOf_53 : decode b_Re_endOf 53 = .ok (.aload_n 0, 1) := by decide +kernel
theorem d_Re_endOf_54 : decode b_Re_endOf 54 = .ok (.getfield 9, 3) := by decide +kernel
theorem d_Re_endOf_57 : decode b_Re_endOf 57 = .ok (.iload_n 3, 1) := by decide +kernel
theorem d_Re_endOf_58 : decode b_Re_endOf 58 = .ok (.caload, 1) := by decide +kernel
theorem d_Re_endOf_59 : decode b_Re_endOf 59 = .ok (.invokestatic 52, 3) := by decide +kernel
theorem d_Re_endOf_62 : decode b_Re_endOf 62 = .ok (.ifCond .eq 9, 3) := by decide +kernel
theorem d_Re_endOf_65 : decode b_Re_endOf 65 = .ok (.iinc 3 1, 3) := by decide +kernel
theorem d_Re_endOf_68 : decode b_Re_endOf 68 = .ok (.goto (-24), 3) := by decide +kernel
theorem d_Re_endOf_71 : decode b_Re_endOf 71 = .ok (.iload_n 3, 1) := by decide +kernel
theorem d_Re_endOf_72 : decode b_Re_endOf 72 = .ok (.ireturn, 1) := by decide +kernel
theorem d_Re_accept_0 : decode b_Re_accept 0 = .ok (.aload_n 0, 1) := by decide +kernel
theorem d_Re_accept_1 : decode b_Re_accept 1 = .ok (.getfield 97, 3) := by decide +kernel
theorem d_Re_accept_4 : decode b_Re_accept 4 = .ok (.ifCond .ne 16, 3) := by decide +kernel
theorem d_Re_accept_7 : decode b_Re_accept 7 = .ok (.aload_n 0, 1) := by decide +kernel
theorem d_Re_accept_8 : decode b_Re_accept 8 = .ok (.getfield 17, 3) := by decide +kernel
theorem d_Re_accept_11 : decode b_Re_accept 11 = .ok (.aload_n 0, 1) := by decide +kernel
theorem d_Re_accept_12 : decode b_Re_accept 12 = .ok (.getfield 33, 3) := by decide +kernel
theorem d_Re_accept_15 : decode b_Re_accept 15 = .ok (.aaload, 1) := by decide +kernel
theorem d_Re_accept_16 : decode b_Re_accept 16 = .ok (.aload_n 1, 1) := by decide +kernel
theorem d_Re_accept_17 : decode b_Re_accept 17 = .ok (.if_acmp .eq 5, 3) := by decide +kernel
theorem d_Re_accept_20 : decode b_Re_accept 20 = .ok (.iconst 0, 1) := by decide +kernel
theorem d_Re_accept_21 : decode b_Re_accept 21 = .ok (.ireturn, 1) := by decide +kernel
theorem d_Re_accept_22 : decode b_Re_accept 22 = .ok (.aload_n 0, 1) := by decide +kernel
theorem d_Re_accept_23 : decode b_Re_accept 23 = .ok (.dup, 1) := by decide +kernel
theorem d_Re_accept_24 : decode b_Re_accept 24 = .ok (.getfield 33, 3) := by decide +kernel
theorem d_Re_accept_27 : decode b_Re_accept 27 = .ok (.iconst 1, 1) := by decide +kernel
theorem d_Re_accept_28 : decode b_Re_accept 28 = .ok (.iadd, 1) := by decide +kernel
theorem d_Re_accept_29 : decode b_Re_accept 29 = .ok (.putfield 33, 3) := by decide +kernel
theorem d_Re_accept_32 : decode b_Re_accept 32 = .ok (.iconst 1, 1) := by decide +kernel
theorem d_Re_accept_33 : decode b_Re_accept 33 = .ok (.ireturn, 1) := by decide +kernel
theorem d_Re_expect_0 : decode b_Re_expect 0 = .ok (.aload_n 0, 1) := by decide +kernel
theorem d_Re_expect_1 : decode b_Re_expect 1 = .ok (.getfield 97, 3) := by decide +kernel
theorem d_Re_expect_4 : decode b_Re_expect 4 = .ok (.ifCond .ne 16, 3) := by decide +kernel
theorem d_Re_expect_7 : decode b_Re_expect 7 = .ok (.aload_n 0, 1) := by decide +kernel
theorem d_Re_expect_8 : decode b_Re_expect 8 = .ok (.getfield 17, 3) := by decide +kernel
theorem d_Re_expect_11 : decode b_Re_expect 11 = .ok (.aload_n 0, 1) := by decide +kernel
theorem d_Re_expect_12 : decode b_Re_expect 12 = .ok (.getfield 33, 3) := by decide +kernel
theorem d_Re_expect_15 : decode b_Re_expect 15 = .ok (.aaload, 1) := by decide +kernel
theorem d_Re_expect_16 : decode b_Re_expect 16 = .ok (.aload_n 1, 1) := by decide +kernel
theorem d_Re_expect_17 : decode b_Re_expect 17 = .ok (.if_acmp .eq 11, 3) := by decide +kernel
theorem d_Re_expect_20 : decode b_Re_expect 20 = .ok (.aload_n 0, 1) := by decide +kernel
theorem d_Re_expect_21 : decode b_Re_expect 21 = .ok (.iconst 1, 1) := by decide +kernel
theorem d_Re_expect_22 : decode b_Re_expect 22 = .ok (.putfield 97, 3) := by decide +kernel
theorem d_Re_expect_25 : decode b_Re_expect 25 = .ok (.goto 13, 3) := by decide +kernel
theorem d_Re_expect_28 : decode b_Re_expect 28 = .ok (.aload_n 0, 1) := by decide +kernel
theorem d_Re_expect_29 : decode b_Re_expect 29 = .ok (.dup, 1) := by decide +kernel
theorem d_Re_expect_30 : decode b_Re_expect 30 = .ok (.getfield 33, 3) := by decide +kernel
theorem d_Re_expect_33 : decode b_Re_expect 33 = .ok (.iconst 1, 1) := by decide +kernel
theorem d_Re_expect_34 : decode b_Re_expect 34 = .ok (.iadd, 1) := by decide +kernel
theorem d_Re_expect_35 : decode b_Re_expect 35 = .ok (.putfield 33, 3) := by decide +kernel
theorem d_Re_expect_38 : decode b_Re_expect 38 = .ok (.return_, 1) := by decide +kernel
theorem d_Re_stuckAt_0 : decode b_Re_stuckAt 0 = .ok (.iconst 1, 1) := by decide +kernel
theorem d_Re_stuckAt_1 : decode b_Re_stuckAt 1 = .ok (.bipush 10, 2) := by decide +kernel
theorem d_Re_stuckAt_3 : decode b_Re_stuckAt 3 = .ok (.aload_n 0, 1) := by decide +kernel
theorem d_Re_stuckAt_4 : decode b_Re_stuckAt 4 = .ok (.getfield 21, 3) := by decide +kernel
theorem d_Re_stuckAt_7 : decode b_Re_stuckAt 7 = .ok (.aload_n 0, 1) := by decide +kernel
theorem d_Re_stuckAt_8 : decode b_Re_stuckAt 8 = .ok (.getfield 33, 3) := by decide +kernel
theorem d_Re_stuckAt_11 : decode b_Re_stuckAt 11 = .ok (.iaload, 1) := by decide +kernel
theorem d_Re_stuckAt_12 : decode b_Re_stuckAt 12 = .ok (.imul, 1) := by decide +kernel
theorem d_Re_stuckAt_13 : decode b_Re_stuckAt 13 = .ok (.iadd, 1) := by decide +kernel
theorem d_Re_stuckAt_14 : decode b_Re_stuckAt 14 = .ok (.ireturn, 1) := by decide +kernel
