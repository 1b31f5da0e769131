theorem d_Re_init_0 : decode b_Re_init 0 = .ok (.aload_n 0, 1) := by decide +kernel
theorem d_Re_init_1 : decode b_Re_init 1 = .ok (.invokespecial 3, 3) := by decide +kernel
theorem d_Re_init_4 : decode b_Re_init 4 = .ok (.aload_n 0, 1) := by decide +kernel
theorem d_Re_init_5 : decode b_Re_init 5 = .ok (.sipush 400, 3) := by decide +kernel
theorem d_Re_init_8 : decode b_Re_init 8 = .ok (.newarray .char, 2) := by decide +kernel
theorem d_Re_init_10 : decode b_Re_init 10 = .ok (.putfield 9, 3) := by decide +kernel
theorem d_Re_init_13 : decode b_Re_init 13 = .ok (.aload_n 0, 1) := by decide +kernel
theorem d_Re_init_14 : decode b_Re_init 14 = .ok (.sipush 401, 3) := by decide +kernel
theorem d_Re_init_17 : decode b_Re_init 17 = .ok (.anewarray 15, 3) := by decide +kernel
theorem d_Re_init_20 : decode b_Re_init 20 = .ok (.putfield 17, 3) := by decide +kernel
theorem d_Re_init_23 : decode b_Re_init 23 = .ok (.aload_n 0, 1) := by decide +kernel
theorem d_Re_init_24 : decode b_Re_init 24 = .ok (.sipush 401, 3) := by decide +kernel
theorem d_Re_init_27 : decode b_Re_init 27 = .ok (.newarray .int, 2) := by decide +kernel
theorem d_Re_init_29 : decode b_Re_init 29 = .ok (.putfield 21, 3) := by decide +kernel
theorem d_Re_init_32 : decode b_Re_init 32 = .ok (.aload_n 0, 1) := by decide +kernel
theorem d_Re_init_33 : decode b_Re_init 33 = .ok (.sipush 401, 3) := by decide +kernel
theorem d_Re_init_36 : decode b_Re_init 36 = .ok (.newarray .long, 2) := by decide +kernel
theorem d_Re_init_38 : decode b_Re_init 38 = .ok (.putfield 25, 3) := by decide +kernel
theorem d_Re_init_41 : decode b_Re_init 41 = .ok (.return_, 1) := by decide +kernel
theorem d_Re_take_0 : decode b_Re_take 0 = .ok (.bipush 24, 2) := by decide +kernel
theorem d_Re_take_2 : decode b_Re_take 2 = .ok (.istore_n 2, 1) := by decide +kernel
theorem d_Re_take_3 : decode b_Re_take 3 = .ok (.iload_n 2, 1) := by decide +kernel
theorem d_Re_take_4 : decode b_Re_take 4 = .ok (.ifCond .lt 69, 3) := by decide +kernel
theorem d_Re_take_7 : decode b_Re_take 7 = .ok (.iload_n 1, 1) := by decide +kernel
theorem d_Re_take_8 : decode b_Re_take 8 = .ok (.iload_n 2, 1) := by decide +kernel
theorem d_Re_take_9 : decode b_Re_take 9 = .ok (.iushr, 1) := by decide +kernel
theorem d_Re_take_10 : decode b_Re_take 10 = .ok (.sipush 255, 3) := by decide +kernel
theorem d_Re_take_13 : decode b_Re_take 13 = .ok (.iand, 1) := by decide +kernel
theorem d_Re_take_14 : decode b_Re_take 14 = .ok (.istore_n 3, 1) := by decide +kernel
theorem d_Re_take_15 : decode b_Re_take 15 = .ok (.iload_n 3, 1) := by decide +kernel
theorem d_Re_take_16 : decode b_Re_take 16 = .ok (.ifCond .ne 6, 3) := by decide +kernel
theorem d_Re_take_19 : decode b_Re_take 19 = .ok (.goto 48, 3) := by decide +kernel
theorem d_Re_take_22 : decode b_Re_take 22 = .ok (.iload_n 3, 1) := by decide +kernel
theorem d_Re_take_23 : decode b_Re_take 23 = .ok (.bipush 32, 2) := by decide +kernel
theorem d_Re_take_25 : decode b_Re_take 25 = .ok (.if_icmp .lt 19, 3) := by decide +kernel
theorem d_Re_take_28 : decode b_Re_take 28 = .ok (.iload_n 3, 1) := by decide +kernel
theorem d_Re_take_29 : decode b_Re_take 29 = .ok (.bipush 126, 2) := by decide +kernel
theorem d_Re_take_31 : decode b_Re_take 31 = .ok (.if_icmp .gt 13, 3) := by decide +kernel
theorem d_Re_take_34 : decode b_Re_take 34 = .ok (.aload_n 0, 1) := by decide +kernel
theorem d_Re_take_35 : decode b_Re_take 35 = .ok (.getfield 29, 3) := by decide +kernel
theorem d_Re_take_38 : decode b_Re_take 38 = .ok (.sipush 400, 3) := by decide +kernel
theorem d_Re_take_41 : decode b_Re_take 41 = .ok (.if_icmp .lt 5, 3) := by decide +kernel
theorem d_Re_take_44 : decode b_Re_take 44 = .ok (.iconst 0, 1) := by decide +kernel
theorem d_Re_take_45 : decode b_Re_take 45 = .ok (.ireturn, 1) := by decide +kernel
theorem d_Re_take_46 : decode b_Re_take 46 = .ok (.aload_n 0, 1) := by decide +kernel
theorem d_Re_take_47 : decode b_Re_take 47 = .ok (.getfield 9, 3) := by decide +kernel
theorem d_Re_take_50 : decode b_Re_take 50 = .ok (.aload_n 0, 1) := by decide +kernel
theorem d_Re_take_51 : decode b_Re_take 51 = .ok (.getfield 29, 3) := by decide +kernel
theorem d_Re_take_54 : decode b_Re_take 54 = .ok (.iload_n 3, 1) := by decide +kernel
theorem d_Re_take_55 : decode b_Re_take 55 = .ok (.i2c, 1) := by decide +kernel
theorem d_Re_take_56 : decode b_Re_take 56 = .ok (.castore, 1) := by decide +kernel
theorem d_Re_take_57 : decode b_Re_take 57 = .ok (.aload_n 0, 1) := by decide +kernel
theorem d_Re_take_58 : decode b_Re_take 58 = .ok (.dup, 1) := by decide +kernel
theorem d_Re_take_59 : decode b_Re_take 59 = .ok (.getfield 29, 3) := by decide +kernel
theorem d_Re_take_62 : decode b_Re_take 62 = .ok (.iconst 1, 1) := by decide +kernel
theorem d_Re_take_63 : decode b_Re_take 63 = .ok (.iadd, 1) := by decide +kernel
theorem d_Re_take_64 : decode b_Re_take 64 = .ok (.putfield 29, 3) := by decide +kernel
theorem d_Re_take_67 : decode b_Re_take 67 = .ok (.iinc 2 (-8), 3) := by decide +kernel
theorem d_Re_take_70 : decode b_Re_take 70 = .ok (.goto (-67), 3) := by decide +kernel
theorem d_Re_take_73 : decode b_Re_take 73 = .ok (.iconst 1, 1) := by decide +kernel
theorem d_Re_take_74 : decode b_Re_take 74 = .ok (.ireturn, 1) := by decide +kernel
theorem d_Re_isSmall_0 : decode b_Re_isSmall 0 = .ok (.iload_n 0, 1) := by decide +kernel
theorem d_Re_isSmall_1 : decode b_Re_isSmall 1 = .ok (.bipush 97, 2) := by decide +kernel
theorem d_Re_isSmall_3 : decode b_Re_isSmall 3 = .ok (.if_icmp .lt 13, 3) := by decide +kernel
theorem d_Re_isSmall_6 : decode b_Re_isSmall 6 = .ok (.iload_n 0, 1) := by decide +kernel
theorem d_Re_isSmall_7 : decode b_Re_isSmall 7 = .ok (.bipush 122, 2) := by decide +kernel
theorem d_Re_isSmall_9 : decode b_Re_isSmall 9 = .ok (.if_icmp .gt 7, 3) := by decide +kernel
theorem d_Re_isSmall_12 : decode b_Re_isSmall 12 = .ok (.iconst 1, 1) := by decide +kernel
theorem d_Re_isSmall_13 : decode b_Re_isSmall 13 = .ok (.goto 4, 3) := by decide +kernel
theorem d_Re_isSmall_16 : decode b_Re_isSmall 16 = .ok (.iconst 0, 1) := by decide +kernel
theorem d_Re_isSmall_17 : decode b_Re_isSmall 17 = .ok (.ireturn, 1) := by decide +kernel
theorem d_Re_isDigit_0 : decode b_Re_isDigit 0 = .ok (.iload_n 0, 1) := by decide +kernel
theorem d_Re_isDigit_1 : decode b_Re_isDigit 1 = .ok (.bipush 48, 2) := by decide +kernel
theorem d_Re_isDigit_3 : decode b_Re_isDigit 3 = .ok (.if_icmp .lt 13, 3) := by decide +kernel
theorem d_Re_isDigit_6 : decode b_Re_isDigit 6 = .ok (.iload_n 0, 1) := by decide +kernel
theorem d_Re_isDigit_7 : decode b_Re_isDigit 7 = .ok (.bipush 57, 2) := by decide +kernel
theorem d_Re_isDigit_9 : decode b_Re_isDigit 9 = .ok (.if_icmp .gt 7, 3) := by decide +kernel
theorem d_Re_isDigit_12 : decode b_Re_isDigit 12 = .ok (.iconst 1, 1) := by decide +kernel
theorem d_Re_isDigit_13 : decode b_Re_isDigit 13 = .ok (.goto 4, 3) := by decide +kernel
theorem d_Re_isDigit_16 : decode b_Re_isDigit 16 = .ok (.iconst 0, 1) := by decide +kernel
theorem d_Re_isDigit_17 : decode b_Re_isDigit 17 = .ok (.ireturn, 1) := by decide +kernel
theorem d_Re_isCapital_0 : decode b_Re_isCapital 0 = .ok (.iload_n 0, 1) := by decide +kernel
theorem d_Re_isCapital_1 : decode b_Re_isCapital 1 = .ok (.bipush 65, 2) := by decide +kernel
theorem d_Re_isCapital_3 : decode b_Re_isCapital 3 = .ok (.if_icmp .lt 13, 3) := by decide +kernel
theorem d_Re_isCapital_6 : decode b_Re_isCapital 6 = .ok (.iload_n 0, 1) := by decide +kernel
theorem d_Re_isCapital_7 : decode b_Re_isCapital 7 = .ok (.bipush 90, 2) := by decide +kernel
theorem d_Re_isCapital_9 : decode b_Re_isCapital 9 = .ok (.if_icmp .gt 7, 3) := by decide +kernel
theorem d_Re_isCapital_12 : decode b_Re_isCapital 12 = .ok (.iconst 1, 1) := by decide +kernel
theorem d_Re_isCapital_13 : decode b_Re_isCapital 13 = .ok (.goto 4, 3) := by decide +kernel
theorem d_Re_isCapital_16 : decode b_Re_isCapital 16 = .ok (.iconst 0, 1) := by decide +kernel
theorem d_Re_isCapital_17 : decode b_Re_isCapital 17 = .ok (.ireturn, 1) := by decide +kernel
theorem d_Re_belongs_0 : decode b_Re_belongs 0 = .ok (.iload_n 0, 1) := by decide +kernel
theorem d_Re_belongs_1 : decode b_Re_belongs 1 = .ok (.invokestatic 56, 3) := by decide +kernel
theorem d_Re_belongs_4 : decode b_Re_belongs 4 = .ok (.ifCond .eq 23, 3) := by decide +kernel
theorem d_Re_belongs_7 : decode b_Re_belongs 7 = .ok (.iload_n 1, 1) := by decide +kernel
theorem d_Re_belongs_8 : decode b_Re_belongs 8 = .ok (.invokestatic 56, 3) := by decide +kernel
theorem d_Re_belongs_11 : decode b_Re_belongs 11 = .ok (.ifCond .ne 10, 3) := by decide +kernel
theorem d_Re_belongs_14 : decode b_Re_belongs 14 = .ok (.iload_n 1, 1) := by decide +kernel
theorem d_Re_belongs_15 : decode b_Re_belongs 15 = .ok (.invokestatic 60, 3) := by decide +kernel
theorem d_Re_belongs_18 : decode b_Re_belongs 18 = .ok (.ifCond .eq 7, 3) := by decide +kernel
theorem d_Re_belongs_21 : decode b_Re_belongs 21 = .ok (.iconst 1, 1) := by decide +kernel
theorem d_Re_belongs_22 : decode b_Re_belongs 22 = .ok (.goto 4, 3) := by decide +kernel
theorem d_Re_belongs_25 : decode b_Re_belongs 25 = .ok (.iconst 0, 1) := by decide +kernel
theorem d_Re_belongs_26 : decode b_Re_belongs 26 = .ok (.ireturn, 1) := by decide +kernel
theorem d_Re_belongs_27 : decode b_Re_belongs 27 = .ok (.iload_n 0, 1) := by decide +kernel
theorem d_Re_belongs_28 : decode b_Re_belongs 28 = .ok (.invokestatic 60, 3) := by decide +kernel
theorem d_Re_belongs_31 : decode b_Re_belongs 31 = .ok (.ifCond .eq 8, 3) := by decide +kernel
theorem d_Re_belongs_34 : decode b_Re_belongs 34 = .ok (.iload_n 1, 1) := by decide +kernel
theorem d_Re_belongs_35 : decode b_Re_belongs 35 = .ok (.invokestatic 60, 3) := by decide +kernel
theorem d_Re_belongs_38 : decode b_Re_belongs 38 = .ok (.ireturn, 1) := by decide +kernel
theorem d_Re_belongs_39 : decode b_Re_belongs 39 = .ok (.iload_n 0, 1) := by decide +kernel
theorem d_Re_belongs_40 : decode b_Re_belongs 40 = .ok (.invokestatic 63, 3) := by decide +kernel
theorem d_Re_belongs_43 : decode b_Re_belongs 43 = .ok (.ifCond .eq 14, 3) := by decide +kernel
theorem d_Re_belongs_46 : decode b_Re_belongs 46 = .ok (.iload_n 1, 1) := by decide +kernel
theorem d_Re_belongs_47 : decode b_Re_belongs 47 = .ok (.invokestatic 63, 3) := by decide +kernel
theorem d_Re_belongs_50 : decode b_Re_belongs 50 = .ok (.ifCond .eq 7, 3) := by decide +kernel
theorem d_Re_belongs_53 : decode b_Re_belongs 53 = .ok (.iconst 1, 1) := by decide +kernel
theorem d_Re_belongs_54 : decode b_Re_belongs 54 = .ok (.goto 4, 3) := by decide +kernel
theorem d_Re_belongs_57 : decode b_Re_belongs 57 = .ok (.iconst 0, 1) := by decide +kernel
theorem d_Re_belongs_58 : decode b_Re_belongs 58 = .ok (.ireturn, 1) := by decide +kernel
theorem d_Re_endOf_0 : decode b_Re_endOf 0 = .ok (.aload_n 0, 1) := by decide +kernel
theorem d_Re_endOf_1 : decode b_Re_endOf 1 = .ok (.getfield 9, 3) := by decide +kernel
theorem d_Re_endOf_4 : decode b_Re_endOf 4 = .ok (.iload_n 1, 1) := by decide +kernel
theorem d_Re_endOf_5 : decode b_Re_endOf 5 = .ok (.caload, 1) := by decide +kernel
theorem d_Re_endOf_6 : decode b_Re_endOf 6 = .ok (.istore_n 2, 1) := by decide +kernel
theorem d_Re_endOf_7 : decode b_Re_endOf 7 = .ok (.iload_n 2, 1) := by decide +kernel
theorem d_Re_endOf_8 : decode b_Re_endOf 8 = .ok (.bipush 60, 2) := by decide +kernel
theorem d_Re_endOf_10 : decode b_Re_endOf 10 = .ok (.if_icmp .ne 30, 3) := by decide +kernel
theorem d_Re_endOf_13 : decode b_Re_endOf 13 = .ok (.iload_n 1, 1) := by decide +kernel
theorem d_Re_endOf_14 : decode b_Re_endOf 14 = .ok (.iconst 1, 1) := by decide +kernel
theorem d_Re_endOf_15 : decode b_Re_endOf 15 = .ok (.iadd, 1) := by decide +kernel
theorem d_Re_endOf_16 : decode b_Re_endOf 16 = .ok (.aload_n 0, 1) := by decide +kernel
theorem d_Re_endOf_17 : decode b_Re_endOf 17 = .ok (.getfield 29, 3) := by decide +kernel
theorem d_Re_endOf_20 : decode b_Re_endOf 20 = .ok (.if_icmp .ge 20, 3) := by decide +kernel
theorem d_Re_endOf_23 : decode b_Re_endOf 23 = .ok (.aload_n 0, 1) := by decide +kernel
theorem d_Re_endOf_24 : decode b_Re_endOf 24 = .ok (.getfield 9, 3) := by decide +kernel
theorem d_Re_endOf_27 : decode b_Re_endOf 27 = .ok (.iload_n 1, 1) := by decide +kernel
theorem d_Re_endOf_28 : decode b_Re_endOf 28 = .ok (.iconst 1, 1) := by decide +kernel
theorem d_Re_endOf_29 : decode b_Re_endOf 29 = .ok (.iadd, 1) := by decide +kernel
theorem d_Re_endOf_30 : decode b_Re_endOf 30 = .ok (.caload, 1) := by decide +kernel
theorem d_Re_endOf_31 : decode b_Re_endOf 31 = .ok (.bipush 62, 2) := by decide +kernel
theorem d_Re_endOf_33 : decode b_Re_endOf 33 = .ok (.if_icmp .ne 7, 3) := by decide +kernel
theorem d_Re_endOf_36 : decode b_Re_endOf 36 = .ok (.iload_n 1, 1) := by decide +kernel
theorem d_Re_endOf_37 : decode b_Re_endOf 37 = .ok (.iconst 2, 1) := by decide +kernel
theorem d_Re_endOf_38 : decode b_Re_endOf 38 = .ok (.iadd, 1) := by decide +kernel
theorem d_Re_endOf_39 : decode b_Re_endOf 39 = .ok (.ireturn, 1) := by decide +kernel
theorem d_Re_endOf_40 : decode b_Re_endOf 40 = .ok (.iload_n 1, 1) := by decide +kernel
theorem d_Re_endOf_41 : decode b_Re_endOf 41 = .ok (.iconst 1, 1) := by decide +kernel
theorem d_Re_endOf_42 : decode b_Re_endOf 42 = .ok (.iadd, 1) := by decide +kernel
theorem d_Re_endOf_43 : decode b_Re_endOf 43 = .ok (.istore_n 3, 1) := by decide +kernel
theorem d_Re_endOf_44 : decode b_Re_endOf 44 = .ok (.iload_n 3, 1) := by decide +kernel
theorem d_Re_endOf_45 : decode b_Re_endOf 45 = .ok (.aload_n 0, 1) := by decide +kernel
theorem d_Re_endOf_46 : decode b_Re_endOf 46 = .ok (.getfield 29, 3) := by decide +kernel
theorem d_Re_endOf_49 : decode b_Re_endOf 49 = .ok (.if_icmp .ge 22, 3) := by decide +kernel
theorem d_Re_endOf_52 : decode b_Re_endOf 52 = .ok (.iload_n 2, 1) := by decide +kernel
theorem d_Re_endOf_53 : decode b_Re_endOf 53 = .ok (.aload_n 0, 1) := by decide +kernel
theorem d_Re_endOf_54 : decode b_Re_endOf 54 = .ok (.getfield 9, 3) := by decide +kernel
theorem d_Re_endOf_57 : decode b_Re_endOf 57 = .ok (.iload_n 3, 1) := by decide +kernel
theorem d_Re_endOf_58 : decode b_Re_endOf 58 = .ok (.caload, 1) := by decide +kernel
theorem d_Re_endOf_59 : decode b_Re_endOf 59 = .ok (.invokestatic 52, 3) := by decide +kernel
theorem d_Re_endOf_62 : decode b_Re_endOf 62 = .ok (.ifCond .eq 9, 3) := by decide +kernel
theorem d_Re_endOf_65 : decode b_Re_endOf 65 = .ok (.iinc 3 1, 3) := by decide +kernel
theorem d_Re_endOf_68 : decode b_Re_endOf 68 = .ok (.goto (-24), 3) := by decide +kernel
theorem d_Re_endOf_71 : decode b_Re_endOf 71 = .ok (.iload_n 3, 1) := by decide +kernel
theorem d_Re_endOf_72 : decode b_Re_endOf 72 = .ok (.ireturn, 1) := by decide +kernel
theorem d_Re_isWritten_0 : decode b_Re_isWritten 0 = .ok (.aload_n 1, 1) := by decide +kernel
theorem d_Re_isWritten_1 : decode b_Re_isWritten 1 = .ok (.invokevirtual 86, 3) := by decide +kernel
theorem d_Re_isWritten_4 : decode b_Re_isWritten 4 = .ok (.iload_n 3, 1) := by decide +kernel
theorem d_Re_isWritten_5 : decode b_Re_isWritten 5 = .ok (.iload_n 2, 1) := by decide +kernel
theorem d_Re_isWritten_6 : decode b_Re_isWritten 6 = .ok (.isub, 1) := by decide +kernel
theorem d_Re_isWritten_7 : decode b_Re_isWritten 7 = .ok (.if_icmp .eq 5, 3) := by decide +kernel
theorem d_Re_isWritten_10 : decode b_Re_isWritten 10 = .ok (.iconst 0, 1) := by decide +kernel
theorem d_Re_isWritten_11 : decode b_Re_isWritten 11 = .ok (.ireturn, 1) := by decide +kernel
theorem d_Re_isWritten_12 : decode b_Re_isWritten 12 = .ok (.iconst 0, 1) := by decide +kernel
theorem d_Re_isWritten_13 : decode b_Re_isWritten 13 = .ok (.istore 4, 2) := by decide +kernel
theorem d_Re_isWritten_15 : decode b_Re_isWritten 15 = .ok (.iload 4, 2) := by decide +kernel
theorem d_Re_isWritten_17 : decode b_Re_isWritten 17 = .ok (.aload_n 1, 1) := by decide +kernel
theorem d_Re_isWritten_18 : decode b_Re_isWritten 18 = .ok (.invokevirtual 86, 3) := by decide +kernel
theorem d_Re_isWritten_21 : decode b_Re_isWritten 21 = .ok (.if_icmp .ge 29, 3) := by decide +kernel
theorem d_Re_isWritten_24 : decode b_Re_isWritten 24 = .ok (.aload_n 1, 1) := by decide +kernel
theorem d_Re_isWritten_25 : decode b_Re_isWritten 25 = .ok (.iload 4, 2) := by decide +kernel
theorem d_Re_isWritten_27 : decode b_Re_isWritten 27 = .ok (.invokevirtual 91, 3) := by decide +kernel
theorem d_Re_isWritten_30 : decode b_Re_isWritten 30 = .ok (.aload_n 0, 1) := by decide +kernel
theorem d_Re_isWritten_31 : decode b_Re_isWritten 31 = .ok (.getfield 9, 3) := by decide +kernel
theorem d_Re_isWritten_34 : decode b_Re_isWritten 34 = .ok (.iload_n 2, 1) := by decide +kernel
theorem d_Re_isWritten_35 : decode b_Re_isWritten 35 = .ok (.iload 4, 2) := by decide +kernel
theorem d_Re_isWritten_37 : decode b_Re_isWritten 37 = .ok (.iadd, 1) := by decide +kernel
theorem d_Re_isWritten_38 : decode b_Re_isWritten 38 = .ok (.caload, 1) := by decide +kernel
theorem d_Re_isWritten_39 : decode b_Re_isWritten 39 = .ok (.if_icmp .eq 5, 3) := by decide +kernel
theorem d_Re_isWritten_42 : decode b_Re_isWritten 42 = .ok (.iconst 0, 1) := by decide +kernel
theorem d_Re_isWritten_43 : decode b_Re_isWritten 43 = .ok (.ireturn, 1) := by decide +kernel
theorem d_Re_isWritten_44 : decode b_Re_isWritten 44 = .ok (.iinc 4 1, 3) := by decide +kernel
theorem d_Re_isWritten_47 : decode b_Re_isWritten 47 = .ok (.goto (-32), 3) := by decide +kernel
theorem d_Re_isWritten_50 : decode b_Re_isWritten 50 = .ok (.iconst 1, 1) := by decide +kernel
theorem d_Re_isWritten_51 : decode b_Re_isWritten 51 = .ok (.ireturn, 1) := by decide +kernel
theorem d_Re_kindOf_0 : decode b_Re_kindOf 0 = .ok (.aload_n 0, 1) := by decide +kernel
theorem d_Re_kindOf_1 : decode b_Re_kindOf 1 = .ok (.getfield 9, 3) := by decide +kernel
theorem d_Re_kindOf_4 : decode b_Re_kindOf 4 = .ok (.iload_n 1, 1) := by decide +kernel
theorem d_Re_kindOf_5 : decode b_Re_kindOf 5 = .ok (.caload, 1) := by decide +kernel
theorem d_Re_kindOf_6 : decode b_Re_kindOf 6 = .ok (.invokestatic 56, 3) := by decide +kernel
theorem d_Re_kindOf_9 : decode b_Re_kindOf 9 = .ok (.ifCond .eq 21, 3) := by decide +kernel
theorem d_Re_kindOf_12 : decode b_Re_kindOf 12 = .ok (.iload_n 2, 1) := by decide +kernel
theorem d_Re_kindOf_13 : decode b_Re_kindOf 13 = .ok (.iload_n 1, 1) := by decide +kernel
theorem d_Re_kindOf_14 : decode b_Re_kindOf 14 = .ok (.isub, 1) := by decide +kernel
theorem d_Re_kindOf_15 : decode b_Re_kindOf 15 = .ok (.bipush 6, 2) := by decide +kernel
theorem d_Re_kindOf_17 : decode b_Re_kindOf 17 = .ok (.if_icmp .gt 9, 3) := by decide +kernel
theorem d_Re_kindOf_20 : decode b_Re_kindOf 20 = .ok (.getstatic 66, 3) := by decide +kernel
theorem d_Re_kindOf_23 : decode b_Re_kindOf 23 = .ok (.goto 6, 3) := by decide +kernel
theorem d_Re_kindOf_26 : decode b_Re_kindOf 26 = .ok (.getstatic 69, 3) := by decide +kernel
theorem d_Re_kindOf_29 : decode b_Re_kindOf 29 = .ok (.areturn, 1) := by decide +kernel
theorem d_Re_kindOf_30 : decode b_Re_kindOf 30 = .ok (.aload_n 0, 1) := by decide +kernel
theorem d_Re_kindOf_31 : decode b_Re_kindOf 31 = .ok (.getfield 9, 3) := by decide +kernel
theorem d_Re_kindOf_34 : decode b_Re_kindOf 34 = .ok (.iload_n 1, 1) := by decide +kernel
theorem d_Re_kindOf_35 : decode b_Re_kindOf 35 = .ok (.caload, 1) := by decide +kernel
theorem d_Re_kindOf_36 : decode b_Re_kindOf 36 = .ok (.invokestatic 60, 3) := by decide +kernel
theorem d_Re_kindOf_39 : decode b_Re_kindOf 39 = .ok (.ifCond .eq 20, 3) := by decide +kernel
theorem d_Re_kindOf_42 : decode b_Re_kindOf 42 = .ok (.iload_n 2, 1) := by decide +kernel
theorem d_Re_kindOf_43 : decode b_Re_kindOf 43 = .ok (.iload_n 1, 1) := by decide +kernel
theorem d_Re_kindOf_44 : decode b_Re_kindOf 44 = .ok (.isub, 1) := by decide +kernel
theorem d_Re_kindOf_45 : decode b_Re_kindOf 45 = .ok (.iconst 4, 1) := by decide +kernel
theorem d_Re_kindOf_46 : decode b_Re_kindOf 46 = .ok (.if_icmp .gt 9, 3) := by decide +kernel
theorem d_Re_kindOf_49 : decode b_Re_kindOf 49 = .ok (.getstatic 72, 3) := by decide +kernel
theorem d_Re_kindOf_52 : decode b_Re_kindOf 52 = .ok (.goto 6, 3) := by decide +kernel
theorem d_Re_kindOf_55 : decode b_Re_kindOf 55 = .ok (.getstatic 69, 3) := by decide +kernel
theorem d_Re_kindOf_58 : decode b_Re_kindOf 58 = .ok (.areturn, 1) := by decide +kernel
theorem d_Re_kindOf_59 : decode b_Re_kindOf 59 = .ok (.iconst 0, 1) := by decide +kernel
theorem d_Re_kindOf_60 : decode b_Re_kindOf 60 = .ok (.istore_n 3, 1) := by decide +kernel
theorem d_Re_kindOf_61 : decode b_Re_kindOf 61 = .ok (.iload_n 3, 1) := by decide +kernel
theorem d_Re_kindOf_62 : decode b_Re_kindOf 62 = .ok (.getstatic 75, 3) := by decide +kernel
theorem d_Re_kindOf_65 : decode b_Re_kindOf 65 = .ok (.arraylength, 1) := by decide +kernel
theorem d_Re_kindOf_66 : decode b_Re_kindOf 66 = .ok (.if_icmp .ge 32, 3) := by decide +kernel
theorem d_Re_kindOf_69 : decode b_Re_kindOf 69 = .ok (.aload_n 0, 1) := by decide +kernel
theorem d_Re_kindOf_70 : decode b_Re_kindOf 70 = .ok (.getstatic 75, 3) := by decide +kernel
theorem d_Re_kindOf_73 : decode b_Re_kindOf 73 = .ok (.iload_n 3, 1) := by decide +kernel
theorem d_Re_kindOf_74 : decode b_Re_kindOf 74 = .ok (.aaload, 1) := by decide +kernel
theorem d_Re_kindOf_75 : decode b_Re_kindOf 75 = .ok (.getfield 78, 3) := by decide +kernel
theorem d_Re_kindOf_78 : decode b_Re_kindOf 78 = .ok (.iload_n 1, 1) := by decide +kernel
theorem d_Re_kindOf_79 : decode b_Re_kindOf 79 = .ok (.iload_n 2, 1) := by decide +kernel
theorem d_Re_kindOf_80 : decode b_Re_kindOf 80 = .ok (.invokevirtual 82, 3) := by decide +kernel
theorem d_Re_kindOf_83 : decode b_Re_kindOf 83 = .ok (.ifCond .eq 9, 3) := by decide +kernel
theorem d_Re_kindOf_86 : decode b_Re_kindOf 86 = .ok (.getstatic 75, 3) := by decide +kernel
theorem d_Re_kindOf_89 : decode b_Re_kindOf 89 = .ok (.iload_n 3, 1) := by decide +kernel
theorem d_Re_kindOf_90 : decode b_Re_kindOf 90 = .ok (.aaload, 1) := by decide +kernel
theorem d_Re_kindOf_91 : decode b_Re_kindOf 91 = .ok (.areturn, 1) := by decide +kernel
theorem d_Re_kindOf_92 : decode b_Re_kindOf 92 = .ok (.iinc 3 1, 3) := by decide +kernel
theorem d_Re_kindOf_95 : decode b_Re_kindOf 95 = .ok (.goto (-34), 3) := by decide +kernel
theorem d_Re_kindOf_98 : decode b_Re_kindOf 98 = .ok (.getstatic 69, 3) := by decide +kernel
theorem d_Re_kindOf_101 : decode b_Re_kindOf 101 = .ok (.areturn, 1) := by decide +kernel
theorem d_Re_wordOf_0 : decode b_Re_wordOf 0 = .ok (.lconst 0, 1) := by decide +kernel
theorem d_Re_wordOf_1 : decode b_Re_wordOf 1 = .ok (.lstore 4, 2) := by decide +kernel
theorem d_Re_wordOf_3 : decode b_Re_wordOf 3 = .ok (.aload_n 1, 1) := by decide +kernel
theorem d_Re_wordOf_4 : decode b_Re_wordOf 4 = .ok (.getstatic 72, 3) := by decide +kernel
theorem d_Re_wordOf_7 : decode b_Re_wordOf 7 = .ok (.if_acmp .ne 41, 3) := by decide +kernel
theorem d_Re_wordOf_10 : decode b_Re_wordOf 10 = .ok (.iload_n 2, 1) := by decide +kernel
theorem d_Re_wordOf_11 : decode b_Re_wordOf 11 = .ok (.istore 6, 2) := by decide +kernel
theorem d_Re_wordOf_13 : decode b_Re_wordOf 13 = .ok (.iload 6, 2) := by decide +kernel
theorem d_Re_wordOf_15 : decode b_Re_wordOf 15 = .ok (.iload_n 3, 1) := by decide +kernel
theorem d_Re_wordOf_16 : decode b_Re_wordOf 16 = .ok (.if_icmp .ge 29, 3) := by decide +kernel
theorem d_Re_wordOf_19 : decode b_Re_wordOf 19 = .ok (.lload 4, 2) := by decide +kernel
theorem d_Re_wordOf_21 : decode b_Re_wordOf 21 = .ok (.ldc2_w 95, 3) := by decide +kernel
theorem d_Re_wordOf_24 : decode b_Re_wordOf 24 = .ok (.lmul, 1) := by decide +kernel
theorem d_Re_wordOf_25 : decode b_Re_wordOf 25 = .ok (.aload_n 0, 1) := by decide +kernel
theorem d_Re_wordOf_26 : decode b_Re_wordOf 26 = .ok (.getfield 9, 3) := by decide +kernel
theorem d_Re_wordOf_29 : decode b_Re_wordOf 29 = .ok (.iload 6, 2) := by decide +kernel
theorem d_Re_wordOf_31 : decode b_Re_wordOf 31 = .ok (.caload, 1) := by decide +kernel
theorem d_Re_wordOf_32 : decode b_Re_wordOf 32 = .ok (.bipush 48, 2) := by decide +kernel
theorem d_Re_wordOf_34 : decode b_Re_wordOf 34 = .ok (.isub, 1) := by decide +kernel
theorem d_Re_wordOf_35 : decode b_Re_wordOf 35 = .ok (.i2l, 1) := by decide +kernel
theorem d_Re_wordOf_36 : decode b_Re_wordOf 36 = .ok (.ladd, 1) := by decide +kernel
theorem d_Re_wordOf_37 : decode b_Re_wordOf 37 = .ok (.lstore 4, 2) := by decide +kernel
theorem d_Re_wordOf_39 : decode b_Re_wordOf 39 = .ok (.iinc 6 1, 3) := by decide +kernel
theorem d_Re_wordOf_42 : decode b_Re_wordOf 42 = .ok (.goto (-29), 3) := by decide +kernel
theorem d_Re_wordOf_45 : decode b_Re_wordOf 45 = .ok (.goto 41, 3) := by decide +kernel
theorem d_Re_wordOf_48 : decode b_Re_wordOf 48 = .ok (.aload_n 1, 1) := by decide +kernel
theorem d_Re_wordOf_49 : decode b_Re_wordOf 49 = .ok (.getstatic 66, 3) := by decide +kernel
theorem d_Re_wordOf_52 : decode b_Re_wordOf 52 = .ok (.if_acmp .ne 34, 3) := by decide +kernel
theorem d_Re_wordOf_55 : decode b_Re_wordOf 55 = .ok (.iload_n 2, 1) := by decide +kernel
theorem d_Re_wordOf_56 : decode b_Re_wordOf 56 = .ok (.istore 6, 2) := by decide +kernel
theorem d_Re_wordOf_58 : decode b_Re_wordOf 58 = .ok (.iload 6, 2) := by decide +kernel
theorem d_Re_wordOf_60 : decode b_Re_wordOf 60 = .ok (.iload_n 3, 1) := by decide +kernel
theorem d_Re_wordOf_61 : decode b_Re_wordOf 61 = .ok (.if_icmp .ge 25, 3) := by decide +kernel
theorem d_Re_wordOf_64 : decode b_Re_wordOf 64 = .ok (.lload 4, 2) := by decide +kernel
theorem d_Re_wordOf_66 : decode b_Re_wordOf 66 = .ok (.bipush 8, 2) := by decide +kernel
theorem d_Re_wordOf_68 : decode b_Re_wordOf 68 = .ok (.lshl, 1) := by decide +kernel
theorem d_Re_wordOf_69 : decode b_Re_wordOf 69 = .ok (.aload_n 0, 1) := by decide +kernel
theorem d_Re_wordOf_70 : decode b_Re_wordOf 70 = .ok (.getfield 9, 3) := by decide +kernel
theorem d_Re_wordOf_73 : decode b_Re_wordOf 73 = .ok (.iload 6, 2) := by decide +kernel
theorem d_Re_wordOf_75 : decode b_Re_wordOf 75 = .ok (.caload, 1) := by decide +kernel
theorem d_Re_wordOf_76 : decode b_Re_wordOf 76 = .ok (.i2l, 1) := by decide +kernel
theorem d_Re_wordOf_77 : decode b_Re_wordOf 77 = .ok (.ladd, 1) := by decide +kernel
theorem d_Re_wordOf_78 : decode b_Re_wordOf 78 = .ok (.lstore 4, 2) := by decide +kernel
theorem d_Re_wordOf_80 : decode b_Re_wordOf 80 = .ok (.iinc 6 1, 3) := by decide +kernel
theorem d_Re_wordOf_83 : decode b_Re_wordOf 83 = .ok (.goto (-25), 3) := by decide +kernel
theorem d_Re_wordOf_86 : decode b_Re_wordOf 86 = .ok (.lload 4, 2) := by decide +kernel
theorem d_Re_wordOf_88 : decode b_Re_wordOf 88 = .ok (.lreturn, 1) := by decide +kernel
theorem d_Re_cut_0 : decode b_Re_cut 0 = .ok (.iconst 0, 1) := by decide +kernel
theorem d_Re_cut_1 : decode b_Re_cut 1 = .ok (.istore_n 1, 1) := by decide +kernel
theorem d_Re_cut_2 : decode b_Re_cut 2 = .ok (.iconst 0, 1) := by decide +kernel
theorem d_Re_cut_3 : decode b_Re_cut 3 = .ok (.istore_n 2, 1) := by decide +kernel
theorem d_Re_cut_4 : decode b_Re_cut 4 = .ok (.iconst 0, 1) := by decide +kernel
theorem d_Re_cut_5 : decode b_Re_cut 5 = .ok (.istore_n 3, 1) := by decide +kernel
theorem d_Re_cut_6 : decode b_Re_cut 6 = .ok (.iload_n 3, 1) := by decide +kernel
theorem d_Re_cut_7 : decode b_Re_cut 7 = .ok (.aload_n 0, 1) := by decide +kernel
theorem d_Re_cut_8 : decode b_Re_cut 8 = .ok (.getfield 29, 3) := by decide +kernel
theorem d_Re_cut_11 : decode b_Re_cut 11 = .ok (.if_icmp .ge 74, 3) := by decide +kernel
theorem d_Re_cut_14 : decode b_Re_cut 14 = .ok (.iload_n 3, 1) := by decide +kernel
theorem d_Re_cut_15 : decode b_Re_cut 15 = .ok (.iload_n 2, 1) := by decide +kernel
theorem d_Re_cut_16 : decode b_Re_cut 16 = .ok (.if_icmp .lt 63, 3) := by decide +kernel
theorem d_Re_cut_19 : decode b_Re_cut 19 = .ok (.aload_n 0, 1) := by decide +kernel
theorem d_Re_cut_20 : decode b_Re_cut 20 = .ok (.getfield 9, 3) := by decide +kernel
theorem d_Re_cut_23 : decode b_Re_cut 23 = .ok (.iload_n 3, 1) := by decide +kernel
theorem d_Re_cut_24 : decode b_Re_cut 24 = .ok (.caload, 1) := by decide +kernel
theorem d_Re_cut_25 : decode b_Re_cut 25 = .ok (.bipush 32, 2) := by decide +kernel
theorem d_Re_cut_27 : decode b_Re_cut 27 = .ok (.if_icmp .ne 6, 3) := by decide +kernel
theorem d_Re_cut_30 : decode b_Re_cut 30 = .ok (.goto 49, 3) := by decide +kernel
theorem d_Re_cut_33 : decode b_Re_cut 33 = .ok (.aload_n 0, 1) := by decide +kernel
theorem d_Re_cut_34 : decode b_Re_cut 34 = .ok (.iload_n 3, 1) := by decide +kernel
theorem d_Re_cut_35 : decode b_Re_cut 35 = .ok (.invokevirtual 36, 3) := by decide +kernel
theorem d_Re_cut_38 : decode b_Re_cut 38 = .ok (.istore_n 2, 1) := by decide +kernel
theorem d_Re_cut_39 : decode b_Re_cut 39 = .ok (.aload_n 0, 1) := by decide +kernel
theorem d_Re_cut_40 : decode b_Re_cut 40 = .ok (.getfield 17, 3) := by decide +kernel
theorem d_Re_cut_43 : decode b_Re_cut 43 = .ok (.iload_n 1, 1) := by decide +kernel
theorem d_Re_cut_44 : decode b_Re_cut 44 = .ok (.aload_n 0, 1) := by decide +kernel
theorem d_Re_cut_45 : decode b_Re_cut 45 = .ok (.iload_n 3, 1) := by decide +kernel
theorem d_Re_cut_46 : decode b_Re_cut 46 = .ok (.iload_n 2, 1) := by decide +kernel
theorem d_Re_cut_47 : decode b_Re_cut 47 = .ok (.invokevirtual 40, 3) := by decide +kernel
theorem d_Re_cut_50 : decode b_Re_cut 50 = .ok (.aastore, 1) := by decide +kernel
theorem d_Re_cut_51 : decode b_Re_cut 51 = .ok (.aload_n 0, 1) := by decide +kernel
theorem d_Re_cut_52 : decode b_Re_cut 52 = .ok (.getfield 21, 3) := by decide +kernel
theorem d_Re_cut_55 : decode b_Re_cut 55 = .ok (.iload_n 1, 1) := by decide +kernel
theorem d_Re_cut_56 : decode b_Re_cut 56 = .ok (.iload_n 3, 1) := by decide +kernel
theorem d_Re_cut_57 : decode b_Re_cut 57 = .ok (.iastore, 1) := by decide +kernel
theorem d_Re_cut_58 : decode b_Re_cut 58 = .ok (.aload_n 0, 1) := by decide +kernel
theorem d_Re_cut_59 : decode b_Re_cut 59 = .ok (.getfield 25, 3) := by decide +kernel
theorem d_Re_cut_62 : decode b_Re_cut 62 = .ok (.iload_n 1, 1) := by decide +kernel
theorem d_Re_cut_63 : decode b_Re_cut 63 = .ok (.aload_n 0, 1) := by decide +kernel
theorem d_Re_cut_64 : decode b_Re_cut 64 = .ok (.aload_n 0, 1) := by decide +kernel
theorem d_Re_cut_65 : decode b_Re_cut 65 = .ok (.getfield 17, 3) := by decide +kernel
theorem d_Re_cut_68 : decode b_Re_cut 68 = .ok (.iload_n 1, 1) := by decide +kernel
theorem d_Re_cut_69 : decode b_Re_cut 69 = .ok (.aaload, 1) := by decide +kernel
theorem d_Re_cut_70 : decode b_Re_cut 70 = .ok (.iload_n 3, 1) := by decide +kernel
theorem d_Re_cut_71 : decode b_Re_cut 71 = .ok (.iload_n 2, 1) := by decide +kernel
theorem d_Re_cut_72 : decode b_Re_cut 72 = .ok (.invokevirtual 44, 3) := by decide +kernel
theorem d_Re_cut_75 : decode b_Re_cut 75 = .ok (.lastore, 1) := by decide +kernel
theorem d_Re_cut_76 : decode b_Re_cut 76 = .ok (.iinc 1 1, 3) := by decide +kernel
theorem d_Re_cut_79 : decode b_Re_cut 79 = .ok (.iinc 3 1, 3) := by decide +kernel
theorem d_Re_cut_82 : decode b_Re_cut 82 = .ok (.goto (-76), 3) := by decide +kernel
theorem d_Re_cut_85 : decode b_Re_cut 85 = .ok (.aload_n 0, 1) := by decide +kernel
theorem d_Re_cut_86 : decode b_Re_cut 86 = .ok (.getfield 17, 3) := by decide +kernel
theorem d_Re_cut_89 : decode b_Re_cut 89 = .ok (.iload_n 1, 1) := by decide +kernel
theorem d_Re_cut_90 : decode b_Re_cut 90 = .ok (.getstatic 48, 3) := by decide +kernel
theorem d_Re_cut_93 : decode b_Re_cut 93 = .ok (.aastore, 1) := by decide +kernel
theorem d_Re_cut_94 : decode b_Re_cut 94 = .ok (.aload_n 0, 1) := by decide +kernel
theorem d_Re_cut_95 : decode b_Re_cut 95 = .ok (.getfield 21, 3) := by decide +kernel
theorem d_Re_cut_98 : decode b_Re_cut 98 = .ok (.iload_n 1, 1) := by decide +kernel
theorem d_Re_cut_99 : decode b_Re_cut 99 = .ok (.aload_n 0, 1) := by decide +kernel
theorem d_Re_cut_100 : decode b_Re_cut 100 = .ok (.getfield 29, 3) := by decide +kernel
theorem d_Re_cut_103 : decode b_Re_cut 103 = .ok (.iastore, 1) := by decide +kernel
theorem d_Re_cut_104 : decode b_Re_cut 104 = .ok (.aload_n 0, 1) := by decide +kernel
theorem d_Re_cut_105 : decode b_Re_cut 105 = .ok (.getfield 25, 3) := by decide +kernel
theorem d_Re_cut_108 : decode b_Re_cut 108 = .ok (.iload_n 1, 1) := by decide +kernel
theorem d_Re_cut_109 : decode b_Re_cut 109 = .ok (.lconst 0, 1) := by decide +kernel
theorem d_Re_cut_110 : decode b_Re_cut 110 = .ok (.lastore, 1) := by decide +kernel
theorem d_Re_cut_111 : decode b_Re_cut 111 = .ok (.return_, 1) := by decide +kernel
theorem d_Re_accept_0 : decode b_Re_accept 0 = .ok (.aload_n 0, 1) := by decide +kernel
theorem d_Re_accept_1 : decode b_Re_accept 1 = .ok (.getfield 97, 3) := by decide +kernel
theorem d_Re_accept_4 : decode b_Re_accept 4 = .ok (.ifCond .ne 16, 3) := by decide +kernel
theorem d_Re_accept_7 : decode b_Re_accept 7 = .ok (.aload_n 0, 1) := by decide +kernel
theorem d_Re_accept_8 : decode b_Re_accept 8 = .ok (.getfield 17, 3) := by decide +kernel
theorem d_Re_accept_11 : decode b_Re_accept 11 = .ok (.aload_n 0, 1) := by decide +kernel
theorem d_Re_accept_12 : decode b_Re_accept 12 = .ok (.getfield 33, 3) := by decide +kernel
theorem d_Re_accept_15 : decode b_Re_accept 15 = .ok (.aaload, 1) := by decide +kernel
theorem d_Re_accept_16 : decode b_Re_accept 16 = .ok (.aload_n 1, 1) := by decide +kernel
theorem d_Re_accept_17 : decode b_Re_accept 17 = .ok (.if_acmp .eq 5, 3) := by decide +kernel
theorem d_Re_accept_20 : decode b_Re_accept 20 = .ok (.iconst 0, 1) := by decide +kernel
theorem d_Re_accept_21 : decode b_Re_accept 21 = .ok (.ireturn, 1) := by decide +kernel
theorem d_Re_accept_22 : decode b_Re_accept 22 = .ok (.aload_n 0, 1) := by decide +kernel
theorem d_Re_accept_23 : decode b_Re_accept 23 = .ok (.dup, 1) := by decide +kernel
theorem d_Re_accept_24 : decode b_Re_accept 24 = .ok (.getfield 33, 3) := by decide +kernel
theorem d_Re_accept_27 : decode b_Re_accept 27 = .ok (.iconst 1, 1) := by decide +kernel
theorem d_Re_accept_28 : decode b_Re_accept 28 = .ok (.iadd, 1) := by decide +kernel
theorem d_Re_accept_29 : decode b_Re_accept 29 = .ok (.putfield 33, 3) := by decide +kernel
theorem d_Re_accept_32 : decode b_Re_accept 32 = .ok (.iconst 1, 1) := by decide +kernel
theorem d_Re_accept_33 : decode b_Re_accept 33 = .ok (.ireturn, 1) := by decide +kernel
theorem d_Re_name_0 : decode b_Re_name 0 = .ok (.aload_n 0, 1) := by decide +kernel
theorem d_Re_name_1 : decode b_Re_name 1 = .ok (.getfield 97, 3) := by decide +kernel
theorem d_Re_name_4 : decode b_Re_name 4 = .ok (.ifCond .ne 18, 3) := by decide +kernel
theorem d_Re_name_7 : decode b_Re_name 7 = .ok (.aload_n 0, 1) := by decide +kernel
theorem d_Re_name_8 : decode b_Re_name 8 = .ok (.getfield 17, 3) := by decide +kernel
theorem d_Re_name_11 : decode b_Re_name 11 = .ok (.aload_n 0, 1) := by decide +kernel
theorem d_Re_name_12 : decode b_Re_name 12 = .ok (.getfield 33, 3) := by decide +kernel
theorem d_Re_name_15 : decode b_Re_name 15 = .ok (.aaload, 1) := by decide +kernel
theorem d_Re_name_16 : decode b_Re_name 16 = .ok (.getstatic 66, 3) := by decide +kernel
theorem d_Re_name_19 : decode b_Re_name 19 = .ok (.if_acmp .eq 10, 3) := by decide +kernel
theorem d_Re_name_22 : decode b_Re_name 22 = .ok (.aload_n 0, 1) := by decide +kernel
theorem d_Re_name_23 : decode b_Re_name 23 = .ok (.iconst 1, 1) := by decide +kernel
theorem d_Re_name_24 : decode b_Re_name 24 = .ok (.putfield 97, 3) := by decide +kernel
theorem d_Re_name_27 : decode b_Re_name 27 = .ok (.lconst 0, 1) := by decide +kernel
theorem d_Re_name_28 : decode b_Re_name 28 = .ok (.lreturn, 1) := by decide +kernel
theorem d_Re_name_29 : decode b_Re_name 29 = .ok (.aload_n 0, 1) := by decide +kernel
theorem d_Re_name_30 : decode b_Re_name 30 = .ok (.dup, 1) := by decide +kernel
theorem d_Re_name_31 : decode b_Re_name 31 = .ok (.getfield 33, 3) := by decide +kernel
theorem d_Re_name_34 : decode b_Re_name 34 = .ok (.iconst 1, 1) := by decide +kernel
theorem d_Re_name_35 : decode b_Re_name 35 = .ok (.iadd, 1) := by decide +kernel
theorem d_Re_name_36 : decode b_Re_name 36 = .ok (.putfield 33, 3) := by decide +kernel
theorem d_Re_name_39 : decode b_Re_name 39 = .ok (.aload_n 0, 1) := by decide +kernel
theorem d_Re_name_40 : decode b_Re_name 40 = .ok (.getfield 25, 3) := by decide +kernel
theorem d_Re_name_43 : decode b_Re_name 43 = .ok (.aload_n 0, 1) := by decide +kernel
theorem d_Re_name_44 : decode b_Re_name 44 = .ok (.getfield 33, 3) := by decide +kernel
theorem d_Re_name_47 : decode b_Re_name 47 = .ok (.iconst 1, 1) := by decide +kernel
theorem d_Re_name_48 : decode b_Re_name 48 = .ok (.isub, 1) := by decide +kernel
theorem d_Re_name_49 : decode b_Re_name 49 = .ok (.laload, 1) := by decide +kernel
theorem d_Re_name_50 : decode b_Re_name 50 = .ok (.lreturn, 1) := by decide +kernel
theorem d_Re_expect_0 : decode b_Re_expect 0 = .ok (.aload_n 0, 1) := by decide +kernel
theorem d_Re_expect_1 : decode b_Re_expect 1 = .ok (.getfield 97, 3) := by decide +kernel
theorem d_Re_expect_4 : decode b_Re_expect 4 = .ok (.ifCond .ne 16, 3) := by decide +kernel
theorem d_Re_expect_7 : decode b_Re_expect 7 = .ok (.aload_n 0, 1) := by decide +kernel
theorem d_Re_expect_8 : decode b_Re_expect 8 = .ok (.getfield 17, 3) := by decide +kernel
theorem d_Re_expect_11 : decode b_Re_expect 11 = .ok (.aload_n 0, 1) := by decide +kernel
theorem d_Re_expect_12 : decode b_Re_expect 12 = .ok (.getfield 33, 3) := by decide +kernel
theorem d_Re_expect_15 : decode b_Re_expect 15 = .ok (.aaload, 1) := by decide +kernel
theorem d_Re_expect_16 : decode b_Re_expect 16 = .ok (.aload_n 1, 1) := by decide +kernel
theorem d_Re_expect_17 : decode b_Re_expect 17 = .ok (.if_acmp .eq 11, 3) := by decide +kernel
theorem d_Re_expect_20 : decode b_Re_expect 20 = .ok (.aload_n 0, 1) := by decide +kernel
theorem d_Re_expect_21 : decode b_Re_expect 21 = .ok (.iconst 1, 1) := by decide +kernel
theorem d_Re_expect_22 : decode b_Re_expect 22 = .ok (.putfield 97, 3) := by decide +kernel
theorem d_Re_expect_25 : decode b_Re_expect 25 = .ok (.goto 13, 3) := by decide +kernel
theorem d_Re_expect_28 : decode b_Re_expect 28 = .ok (.aload_n 0, 1) := by decide +kernel
theorem d_Re_expect_29 : decode b_Re_expect 29 = .ok (.dup, 1) := by decide +kernel
theorem d_Re_expect_30 : decode b_Re_expect 30 = .ok (.getfield 33, 3) := by decide +kernel
theorem d_Re_expect_33 : decode b_Re_expect 33 = .ok (.iconst 1, 1) := by decide +kernel
theorem d_Re_expect_34 : decode b_Re_expect 34 = .ok (.iadd, 1) := by decide +kernel
theorem d_Re_expect_35 : decode b_Re_expect 35 = .ok (.putfield 33, 3) := by decide +kernel
theorem d_Re_expect_38 : decode b_Re_expect 38 = .ok (.return_, 1) := by decide +kernel
theorem d_Re_nameInto_0 : decode b_Re_nameInto 0 = .ok (.aload_n 1, 1) := by decide +kernel
theorem d_Re_nameInto_1 : decode b_Re_nameInto 1 = .ok (.getfield 203, 3) := by decide +kernel
theorem d_Re_nameInto_4 : decode b_Re_nameInto 4 = .ok (.iload_n 2, 1) := by decide +kernel
theorem d_Re_nameInto_5 : decode b_Re_nameInto 5 = .ok (.aload_n 0, 1) := by decide +kernel
theorem d_Re_nameInto_6 : decode b_Re_nameInto 6 = .ok (.getfield 21, 3) := by decide +kernel
theorem d_Re_nameInto_9 : decode b_Re_nameInto 9 = .ok (.aload_n 0, 1) := by decide +kernel
theorem d_Re_nameInto_10 : decode b_Re_nameInto 10 = .ok (.getfield 33, 3) := by decide +kernel
theorem d_Re_nameInto_13 : decode b_Re_nameInto 13 = .ok (.iaload, 1) := by decide +kernel
theorem d_Re_nameInto_14 : decode b_Re_nameInto 14 = .ok (.iastore, 1) := by decide +kernel
theorem d_Re_nameInto_15 : decode b_Re_nameInto 15 = .ok (.aload_n 1, 1) := by decide +kernel
theorem d_Re_nameInto_16 : decode b_Re_nameInto 16 = .ok (.getfield 204, 3) := by decide +kernel
theorem d_Re_nameInto_19 : decode b_Re_nameInto 19 = .ok (.iload_n 2, 1) := by decide +kernel
theorem d_Re_nameInto_20 : decode b_Re_nameInto 20 = .ok (.aload_n 0, 1) := by decide +kernel
theorem d_Re_nameInto_21 : decode b_Re_nameInto 21 = .ok (.invokevirtual 176, 3) := by decide +kernel
theorem d_Re_nameInto_24 : decode b_Re_nameInto 24 = .ok (.lastore, 1) := by decide +kernel
theorem d_Re_nameInto_25 : decode b_Re_nameInto 25 = .ok (.return_, 1) := by decide +kernel
theorem d_Re_head_0 : decode b_Re_head 0 = .ok (.new 136, 3) := by decide +kernel
theorem d_Re_head_3 : decode b_Re_head 3 = .ok (.dup, 1) := by decide +kernel
theorem d_Re_head_4 : decode b_Re_head 4 = .ok (.invokespecial 172, 3) := by decide +kernel
theorem d_Re_head_7 : decode b_Re_head 7 = .ok (.astore_n 1, 1) := by decide +kernel
theorem d_Re_head_8 : decode b_Re_head 8 = .ok (.aload_n 1, 1) := by decide +kernel
theorem d_Re_head_9 : decode b_Re_head 9 = .ok (.aload_n 0, 1) := by decide +kernel
theorem d_Re_head_10 : decode b_Re_head 10 = .ok (.getfield 21, 3) := by decide +kernel
theorem d_Re_head_13 : decode b_Re_head 13 = .ok (.aload_n 0, 1) := by decide +kernel
theorem d_Re_head_14 : decode b_Re_head 14 = .ok (.getfield 33, 3) := by decide +kernel
theorem d_Re_head_17 : decode b_Re_head 17 = .ok (.iaload, 1) := by decide +kernel
theorem d_Re_head_18 : decode b_Re_head 18 = .ok (.putfield 173, 3) := by decide +kernel
theorem d_Re_head_21 : decode b_Re_head 21 = .ok (.aload_n 1, 1) := by decide +kernel
theorem d_Re_head_22 : decode b_Re_head 22 = .ok (.aload_n 0, 1) := by decide +kernel
theorem d_Re_head_23 : decode b_Re_head 23 = .ok (.invokevirtual 176, 3) := by decide +kernel
theorem d_Re_head_26 : decode b_Re_head 26 = .ok (.putfield 180, 3) := by decide +kernel
theorem d_Re_head_29 : decode b_Re_head 29 = .ok (.aload_n 0, 1) := by decide +kernel
theorem d_Re_head_30 : decode b_Re_head 30 = .ok (.getstatic 183, 3) := by decide +kernel
theorem d_Re_head_33 : decode b_Re_head 33 = .ok (.invokevirtual 186, 3) := by decide +kernel
theorem d_Re_head_36 : decode b_Re_head 36 = .ok (.iconst 1, 1) := by decide +kernel
theorem d_Re_head_37 : decode b_Re_head 37 = .ok (.istore_n 2, 1) := by decide +kernel
theorem d_Re_head_38 : decode b_Re_head 38 = .ok (.iconst 0, 1) := by decide +kernel
theorem d_Re_head_39 : decode b_Re_head 39 = .ok (.istore_n 3, 1) := by decide +kernel
theorem d_Re_head_40 : decode b_Re_head 40 = .ok (.iload_n 3, 1) := by decide +kernel
theorem d_Re_head_41 : decode b_Re_head 41 = .ok (.iconst 3, 1) := by decide +kernel
theorem d_Re_head_42 : decode b_Re_head 42 = .ok (.if_icmp .ge 49, 3) := by decide +kernel
theorem d_Re_head_45 : decode b_Re_head 45 = .ok (.iload_n 2, 1) := by decide +kernel
theorem d_Re_head_46 : decode b_Re_head 46 = .ok (.ifCond .eq 45, 3) := by decide +kernel
theorem d_Re_head_49 : decode b_Re_head 49 = .ok (.aload_n 0, 1) := by decide +kernel
theorem d_Re_head_50 : decode b_Re_head 50 = .ok (.aload_n 1, 1) := by decide +kernel
theorem d_Re_head_51 : decode b_Re_head 51 = .ok (.iload_n 3, 1) := by decide +kernel
theorem d_Re_head_52 : decode b_Re_head 52 = .ok (.invokevirtual 190, 3) := by decide +kernel
theorem d_Re_head_55 : decode b_Re_head 55 = .ok (.aload_n 1, 1) := by decide +kernel
theorem d_Re_head_56 : decode b_Re_head 56 = .ok (.iload_n 3, 1) := by decide +kernel
theorem d_Re_head_57 : decode b_Re_head 57 = .ok (.iconst 1, 1) := by decide +kernel
theorem d_Re_head_58 : decode b_Re_head 58 = .ok (.iadd, 1) := by decide +kernel
theorem d_Re_head_59 : decode b_Re_head 59 = .ok (.putfield 194, 3) := by decide +kernel
theorem d_Re_head_62 : decode b_Re_head 62 = .ok (.iload_n 3, 1) := by decide +kernel
theorem d_Re_head_63 : decode b_Re_head 63 = .ok (.iconst 1, 1) := by decide +kernel
theorem d_Re_head_64 : decode b_Re_head 64 = .ok (.iadd, 1) := by decide +kernel
theorem d_Re_head_65 : decode b_Re_head 65 = .ok (.iconst 3, 1) := by decide +kernel
theorem d_Re_head_66 : decode b_Re_head 66 = .ok (.if_icmp .ge 17, 3) := by decide +kernel
theorem d_Re_head_69 : decode b_Re_head 69 = .ok (.aload_n 0, 1) := by decide +kernel
theorem d_Re_head_70 : decode b_Re_head 70 = .ok (.getstatic 156, 3) := by decide +kernel
theorem d_Re_head_73 : decode b_Re_head 73 = .ok (.invokevirtual 114, 3) := by decide +kernel
theorem d_Re_head_76 : decode b_Re_head 76 = .ok (.ifCond .eq 7, 3) := by decide +kernel
theorem d_Re_head_79 : decode b_Re_head 79 = .ok (.iconst 1, 1) := by decide +kernel
theorem d_Re_head_80 : decode b_Re_head 80 = .ok (.goto 4, 3) := by decide +kernel
theorem d_Re_head_83 : decode b_Re_head 83 = .ok (.iconst 0, 1) := by decide +kernel
theorem d_Re_head_84 : decode b_Re_head 84 = .ok (.istore_n 2, 1) := by decide +kernel
theorem d_Re_head_85 : decode b_Re_head 85 = .ok (.iinc 3 1, 3) := by decide +kernel
theorem d_Re_head_88 : decode b_Re_head 88 = .ok (.goto (-48), 3) := by decide +kernel
theorem d_Re_head_91 : decode b_Re_head 91 = .ok (.aload_n 0, 1) := by decide +kernel
theorem d_Re_head_92 : decode b_Re_head 92 = .ok (.getstatic 197, 3) := by decide +kernel
theorem d_Re_head_95 : decode b_Re_head 95 = .ok (.invokevirtual 186, 3) := by decide +kernel
theorem d_Re_head_98 : decode b_Re_head 98 = .ok (.aload_n 0, 1) := by decide +kernel
theorem d_Re_head_99 : decode b_Re_head 99 = .ok (.getstatic 200, 3) := by decide +kernel
theorem d_Re_head_102 : decode b_Re_head 102 = .ok (.invokevirtual 186, 3) := by decide +kernel
theorem d_Re_head_105 : decode b_Re_head 105 = .ok (.aload_n 0, 1) := by decide +kernel
theorem d_Re_head_106 : decode b_Re_head 106 = .ok (.getstatic 183, 3) := by decide +kernel
theorem d_Re_head_109 : decode b_Re_head 109 = .ok (.invokevirtual 186, 3) := by decide +kernel
theorem d_Re_head_112 : decode b_Re_head 112 = .ok (.aload_n 1, 1) := by decide +kernel
theorem d_Re_head_113 : decode b_Re_head 113 = .ok (.areturn, 1) := by decide +kernel
theorem d_Re_operand_0 : decode b_Re_operand 0 = .ok (.new 255, 3) := by decide +kernel
theorem d_Re_operand_3 : decode b_Re_operand 3 = .ok (.dup, 1) := by decide +kernel
theorem d_Re_operand_4 : decode b_Re_operand 4 = .ok (.iload_n 1, 1) := by decide +kernel
theorem d_Re_operand_5 : decode b_Re_operand 5 = .ok (.aload_n 0, 1) := by decide +kernel
theorem d_Re_operand_6 : decode b_Re_operand 6 = .ok (.getfield 21, 3) := by decide +kernel
theorem d_Re_operand_9 : decode b_Re_operand 9 = .ok (.aload_n 0, 1) := by decide +kernel
theorem d_Re_operand_10 : decode b_Re_operand 10 = .ok (.getfield 33, 3) := by decide +kernel
theorem d_Re_operand_13 : decode b_Re_operand 13 = .ok (.iaload, 1) := by decide +kernel
theorem d_Re_operand_14 : decode b_Re_operand 14 = .ok (.aload_n 0, 1) := by decide +kernel
theorem d_Re_operand_15 : decode b_Re_operand 15 = .ok (.getfield 267, 3) := by decide +kernel
theorem d_Re_operand_18 : decode b_Re_operand 18 = .ok (.aload_n 0, 1) := by decide +kernel
theorem d_Re_operand_19 : decode b_Re_operand 19 = .ok (.getfield 269, 3) := by decide +kernel
theorem d_Re_operand_22 : decode b_Re_operand 22 = .ok (.invokespecial 424, 3) := by decide +kernel
theorem d_Re_operand_25 : decode b_Re_operand 25 = .ok (.astore_n 2, 1) := by decide +kernel
theorem d_Re_operand_26 : decode b_Re_operand 26 = .ok (.aload_n 0, 1) := by decide +kernel
theorem d_Re_operand_27 : decode b_Re_operand 27 = .ok (.getstatic 400, 3) := by decide +kernel
theorem d_Re_operand_30 : decode b_Re_operand 30 = .ok (.invokevirtual 114, 3) := by decide +kernel
theorem d_Re_operand_33 : decode b_Re_operand 33 = .ok (.ifCond .eq 13, 3) := by decide +kernel
theorem d_Re_operand_36 : decode b_Re_operand 36 = .ok (.aload_n 2, 1) := by decide +kernel
theorem d_Re_operand_37 : decode b_Re_operand 37 = .ok (.ldc2_w 427, 3) := by decide +kernel
theorem d_Re_operand_40 : decode b_Re_operand 40 = .ok (.putfield 429, 3) := by decide +kernel
theorem d_Re_operand_43 : decode b_Re_operand 43 = .ok (.goto 66, 3) := by decide +kernel
theorem d_Re_operand_46 : decode b_Re_operand 46 = .ok (.aload_n 0, 1) := by decide +kernel
theorem d_Re_operand_47 : decode b_Re_operand 47 = .ok (.getstatic 72, 3) := by decide +kernel
theorem d_Re_operand_50 : decode b_Re_operand 50 = .ok (.invokevirtual 114, 3) := by decide +kernel
theorem d_Re_operand_53 : decode b_Re_operand 53 = .ok (.ifCond .eq 21, 3) := by decide +kernel
theorem d_Re_operand_56 : decode b_Re_operand 56 = .ok (.aload_n 2, 1) := by decide +kernel
theorem d_Re_operand_57 : decode b_Re_operand 57 = .ok (.aload_n 0, 1) := by decide +kernel
theorem d_Re_operand_58 : decode b_Re_operand 58 = .ok (.getfield 25, 3) := by decide +kernel
theorem d_Re_operand_61 : decode b_Re_operand 61 = .ok (.aload_n 0, 1) := by decide +kernel
theorem d_Re_operand_62 : decode b_Re_operand 62 = .ok (.getfield 33, 3) := by decide +kernel
theorem d_Re_operand_65 : decode b_Re_operand 65 = .ok (.iconst 1, 1) := by decide +kernel
theorem d_Re_operand_66 : decode b_Re_operand 66 = .ok (.isub, 1) := by decide +kernel
theorem d_Re_operand_67 : decode b_Re_operand 67 = .ok (.laload, 1) := by decide +kernel
theorem d_Re_operand_68 : decode b_Re_operand 68 = .ok (.putfield 429, 3) := by decide +kernel
theorem d_Re_operand_71 : decode b_Re_operand 71 = .ok (.goto 38, 3) := by decide +kernel
theorem d_Re_operand_74 : decode b_Re_operand 74 = .ok (.aload_n 2, 1) := by decide +kernel
theorem d_Re_operand_75 : decode b_Re_operand 75 = .ok (.aload_n 0, 1) := by decide +kernel
theorem d_Re_operand_76 : decode b_Re_operand 76 = .ok (.invokevirtual 176, 3) := by decide +kernel
theorem d_Re_operand_79 : decode b_Re_operand 79 = .ok (.putfield 432, 3) := by decide +kernel
theorem d_Re_operand_82 : decode b_Re_operand 82 = .ok (.aload_n 0, 1) := by decide +kernel
theorem d_Re_operand_83 : decode b_Re_operand 83 = .ok (.getstatic 433, 3) := by decide +kernel
theorem d_Re_operand_86 : decode b_Re_operand 86 = .ok (.invokevirtual 186, 3) := by decide +kernel
theorem d_Re_operand_89 : decode b_Re_operand 89 = .ok (.aload_n 2, 1) := by decide +kernel
theorem d_Re_operand_90 : decode b_Re_operand 90 = .ok (.aload_n 0, 1) := by decide +kernel
theorem d_Re_operand_91 : decode b_Re_operand 91 = .ok (.invokevirtual 176, 3) := by decide +kernel
theorem d_Re_operand_94 : decode b_Re_operand 94 = .ok (.putfield 436, 3) := by decide +kernel
theorem d_Re_operand_97 : decode b_Re_operand 97 = .ok (.aload_n 0, 1) := by decide +kernel
theorem d_Re_operand_98 : decode b_Re_operand 98 = .ok (.getfield 107, 3) := by decide +kernel
theorem d_Re_operand_101 : decode b_Re_operand 101 = .ok (.getfield 437, 3) := by decide +kernel
theorem d_Re_operand_104 : decode b_Re_operand 104 = .ok (.aload_n 2, 1) := by decide +kernel
theorem d_Re_operand_105 : decode b_Re_operand 105 = .ok (.invokevirtual 363, 3) := by decide +kernel
theorem d_Re_operand_108 : decode b_Re_operand 108 = .ok (.pop, 1) := by decide +kernel
theorem d_Re_operand_109 : decode b_Re_operand 109 = .ok (.aload_n 2, 1) := by decide +kernel
theorem d_Re_operand_110 : decode b_Re_operand 110 = .ok (.areturn, 1) := by decide +kernel
theorem d_Re_expression_0 : decode b_Re_expression 0 = .ok (.aload_n 0, 1) := by decide +kernel
theorem d_Re_expression_1 : decode b_Re_expression 1 = .ok (.iconst 0, 1) := by decide +kernel
theorem d_Re_expression_2 : decode b_Re_expression 2 = .ok (.invokevirtual 250, 3) := by decide +kernel
theorem d_Re_expression_5 : decode b_Re_expression 5 = .ok (.astore_n 1, 1) := by decide +kernel
theorem d_Re_expression_6 : decode b_Re_expression 6 = .ok (.aload_n 1, 1) := by decide +kernel
theorem d_Re_expression_7 : decode b_Re_expression 7 = .ok (.astore_n 2, 1) := by decide +kernel
theorem d_Re_expression_8 : decode b_Re_expression 8 = .ok (.iconst 1, 1) := by decide +kernel
theorem d_Re_expression_9 : decode b_Re_expression 9 = .ok (.istore_n 3, 1) := by decide +kernel
theorem d_Re_expression_10 : decode b_Re_expression 10 = .ok (.iload_n 3, 1) := by decide +kernel
theorem d_Re_expression_11 : decode b_Re_expression 11 = .ok (.iconst 4, 1) := by decide +kernel
theorem d_Re_expression_12 : decode b_Re_expression 12 = .ok (.if_icmp .ge 51, 3) := by decide +kernel
theorem d_Re_expression_15 : decode b_Re_expression 15 = .ok (.aload_n 0, 1) := by decide +kernel
theorem d_Re_expression_16 : decode b_Re_expression 16 = .ok (.getstatic 418, 3) := by decide +kernel
theorem d_Re_expression_19 : decode b_Re_expression 19 = .ok (.invokevirtual 114, 3) := by decide +kernel
theorem d_Re_expression_22 : decode b_Re_expression 22 = .ok (.istore 4, 2) := by decide +kernel
theorem d_Re_expression_24 : decode b_Re_expression 24 = .ok (.iload 4, 2) := by decide +kernel
theorem d_Re_expression_26 : decode b_Re_expression 26 = .ok (.ifCond .ne 16, 3) := by decide +kernel
theorem d_Re_expression_29 : decode b_Re_expression 29 = .ok (.aload_n 0, 1) := by decide +kernel
theorem d_Re_expression_30 : decode b_Re_expression 30 = .ok (.getstatic 421, 3) := by decide +kernel
theorem d_Re_expression_33 : decode b_Re_expression 33 = .ok (.invokevirtual 114, 3) := by decide +kernel
theorem d_Re_expression_36 : decode b_Re_expression 36 = .ok (.ifCond .ne 6, 3) := by decide +kernel
theorem d_Re_expression_39 : decode b_Re_expression 39 = .ok (.goto 24, 3) := by decide +kernel
theorem d_Re_expression_42 : decode b_Re_expression 42 = .ok (.aload_n 2, 1) := by decide +kernel
theorem d_Re_expression_43 : decode b_Re_expression 43 = .ok (.aload_n 0, 1) := by decide +kernel
theorem d_Re_expression_44 : decode b_Re_expression 44 = .ok (.iload 4, 2) := by decide +kernel
theorem d_Re_expression_46 : decode b_Re_expression 46 = .ok (.invokevirtual 250, 3) := by decide +kernel
theorem d_Re_expression_49 : decode b_Re_expression 49 = .ok (.putfield 338, 3) := by decide +kernel
theorem d_Re_expression_52 : decode b_Re_expression 52 = .ok (.aload_n 2, 1) := by decide +kernel
theorem d_Re_expression_53 : decode b_Re_expression 53 = .ok (.getfield 338, 3) := by decide +kernel
theorem d_Re_expression_56 : decode b_Re_expression 56 = .ok (.astore_n 2, 1) := by decide +kernel
theorem d_Re_expression_57 : decode b_Re_expression 57 = .ok (.iinc 3 1, 3) := by decide +kernel
theorem d_Re_expression_60 : decode b_Re_expression 60 = .ok (.goto (-50), 3) := by decide +kernel
theorem d_Re_expression_63 : decode b_Re_expression 63 = .ok (.aload_n 1, 1) := by decide +kernel
theorem d_Re_expression_64 : decode b_Re_expression 64 = .ok (.areturn, 1) := by decide +kernel
theorem d_Re_item_0 : decode b_Re_item 0 = .ok (.aload_n 0, 1) := by decide +kernel
theorem d_Re_item_1 : decode b_Re_item 1 = .ok (.getfield 267, 3) := by decide +kernel
theorem d_Re_item_4 : decode b_Re_item 4 = .ok (.getfield 310, 3) := by decide +kernel
theorem d_Re_item_7 : decode b_Re_item 7 = .ok (.istore_n 1, 1) := by decide +kernel
theorem d_Re_item_8 : decode b_Re_item 8 = .ok (.aload_n 0, 1) := by decide +kernel
theorem d_Re_item_9 : decode b_Re_item 9 = .ok (.getfield 17, 3) := by decide +kernel
theorem d_Re_item_12 : decode b_Re_item 12 = .ok (.aload_n 0, 1) := by decide +kernel
theorem d_Re_item_13 : decode b_Re_item 13 = .ok (.getfield 33, 3) := by decide +kernel
theorem d_Re_item_16 : decode b_Re_item 16 = .ok (.aaload, 1) := by decide +kernel
theorem d_Re_item_17 : decode b_Re_item 17 = .ok (.astore_n 2, 1) := by decide +kernel
theorem d_Re_item_18 : decode b_Re_item 18 = .ok (.aload_n 0, 1) := by decide +kernel
theorem d_Re_item_19 : decode b_Re_item 19 = .ok (.getfield 267, 3) := by decide +kernel
theorem d_Re_item_22 : decode b_Re_item 22 = .ok (.dup, 1) := by decide +kernel
theorem d_Re_item_23 : decode b_Re_item 23 = .ok (.getfield 310, 3) := by decide +kernel
theorem d_Re_item_26 : decode b_Re_item 26 = .ok (.iconst 1, 1) := by decide +kernel
theorem d_Re_item_27 : decode b_Re_item 27 = .ok (.iadd, 1) := by decide +kernel
theorem d_Re_item_28 : decode b_Re_item 28 = .ok (.putfield 310, 3) := by decide +kernel
theorem d_Re_item_31 : decode b_Re_item 31 = .ok (.aload_n 0, 1) := by decide +kernel
theorem d_Re_item_32 : decode b_Re_item 32 = .ok (.getstatic 313, 3) := by decide +kernel
theorem d_Re_item_35 : decode b_Re_item 35 = .ok (.invokevirtual 114, 3) := by decide +kernel
theorem d_Re_item_38 : decode b_Re_item 38 = .ok (.ifCond .eq 27, 3) := by decide +kernel
theorem d_Re_item_41 : decode b_Re_item 41 = .ok (.aload_n 0, 1) := by decide +kernel
theorem d_Re_item_42 : decode b_Re_item 42 = .ok (.getstatic 183, 3) := by decide +kernel
theorem d_Re_item_45 : decode b_Re_item 45 = .ok (.invokevirtual 186, 3) := by decide +kernel
theorem d_Re_item_48 : decode b_Re_item 48 = .ok (.aload_n 0, 1) := by decide +kernel
theorem d_Re_item_49 : decode b_Re_item 49 = .ok (.getstatic 316, 3) := by decide +kernel
theorem d_Re_item_52 : decode b_Re_item 52 = .ok (.invokevirtual 186, 3) := by decide +kernel
theorem d_Re_item_55 : decode b_Re_item 55 = .ok (.aload_n 0, 1) := by decide +kernel
theorem d_Re_item_56 : decode b_Re_item 56 = .ok (.getstatic 197, 3) := by decide +kernel
theorem d_Re_item_59 : decode b_Re_item 59 = .ok (.invokevirtual 186, 3) := by decide +kernel
theorem d_Re_item_62 : decode b_Re_item 62 = .ok (.goto 114, 3) := by decide +kernel
theorem d_Re_item_65 : decode b_Re_item 65 = .ok (.aload_n 0, 1) := by decide +kernel
theorem d_Re_item_66 : decode b_Re_item 66 = .ok (.getstatic 319, 3) := by decide +kernel
theorem d_Re_item_69 : decode b_Re_item 69 = .ok (.invokevirtual 114, 3) := by decide +kernel
theorem d_Re_item_72 : decode b_Re_item 72 = .ok (.ifCond .ne 23, 3) := by decide +kernel
theorem d_Re_item_75 : decode b_Re_item 75 = .ok (.aload_n 0, 1) := by decide +kernel
theorem d_Re_item_76 : decode b_Re_item 76 = .ok (.getstatic 322, 3) := by decide +kernel
theorem d_Re_item_79 : decode b_Re_item 79 = .ok (.invokevirtual 114, 3) := by decide +kernel
theorem d_Re_item_82 : decode b_Re_item 82 = .ok (.ifCond .ne 13, 3) := by decide +kernel
theorem d_Re_item_85 : decode b_Re_item 85 = .ok (.aload_n 0, 1) := by decide +kernel
theorem d_Re_item_86 : decode b_Re_item 86 = .ok (.getstatic 325, 3) := by decide +kernel
theorem d_Re_item_89 : decode b_Re_item 89 = .ok (.invokevirtual 114, 3) := by decide +kernel
theorem d_Re_item_92 : decode b_Re_item 92 = .ok (.ifCond .eq 33, 3) := by decide +kernel
theorem d_Re_item_95 : decode b_Re_item 95 = .ok (.aload_n 0, 1) := by decide +kernel
theorem d_Re_item_96 : decode b_Re_item 96 = .ok (.getstatic 183, 3) := by decide +kernel
theorem d_Re_item_99 : decode b_Re_item 99 = .ok (.invokevirtual 186, 3) := by decide +kernel
theorem d_Re_item_102 : decode b_Re_item 102 = .ok (.aload_n 0, 1) := by decide +kernel
theorem d_Re_item_103 : decode b_Re_item 103 = .ok (.getfield 267, 3) := by decide +kernel
theorem d_Re_item_106 : decode b_Re_item 106 = .ok (.getfield 328, 3) := by decide +kernel
theorem d_Re_item_109 : decode b_Re_item 109 = .ok (.iload_n 1, 1) := by decide +kernel
theorem d_Re_item_110 : decode b_Re_item 110 = .ok (.aload_n 0, 1) := by decide +kernel
theorem d_Re_item_111 : decode b_Re_item 111 = .ok (.invokevirtual 331, 3) := by decide +kernel
theorem d_Re_item_114 : decode b_Re_item 114 = .ok (.aastore, 1) := by decide +kernel
theorem d_Re_item_115 : decode b_Re_item 115 = .ok (.aload_n 0, 1) := by decide +kernel
theorem d_Re_item_116 : decode b_Re_item 116 = .ok (.getstatic 197, 3) := by decide +kernel
theorem d_Re_item_119 : decode b_Re_item 119 = .ok (.invokevirtual 186, 3) := by decide +kernel
theorem d_Re_item_122 : decode b_Re_item 122 = .ok (.goto 54, 3) := by decide +kernel
theorem d_Re_item_125 : decode b_Re_item 125 = .ok (.aload_n 0, 1) := by decide +kernel
theorem d_Re_item_126 : decode b_Re_item 126 = .ok (.getfield 267, 3) := by decide +kernel
theorem d_Re_item_129 : decode b_Re_item 129 = .ok (.getfield 328, 3) := by decide +kernel
theorem d_Re_item_132 : decode b_Re_item 132 = .ok (.iload_n 1, 1) := by decide +kernel
theorem d_Re_item_133 : decode b_Re_item 133 = .ok (.aload_n 0, 1) := by decide +kernel
theorem d_Re_item_134 : decode b_Re_item 134 = .ok (.invokevirtual 331, 3) := by decide +kernel
theorem d_Re_item_137 : decode b_Re_item 137 = .ok (.aastore, 1) := by decide +kernel
theorem d_Re_item_138 : decode b_Re_item 138 = .ok (.aload_n 0, 1) := by decide +kernel
theorem d_Re_item_139 : decode b_Re_item 139 = .ok (.getfield 267, 3) := by decide +kernel
theorem d_Re_item_142 : decode b_Re_item 142 = .ok (.aload_n 0, 1) := by decide +kernel
theorem d_Re_item_143 : decode b_Re_item 143 = .ok (.getfield 267, 3) := by decide +kernel
theorem d_Re_item_146 : decode b_Re_item 146 = .ok (.getfield 335, 3) := by decide +kernel
theorem d_Re_item_149 : decode b_Re_item 149 = .ok (.ifCond .ne 18, 3) := by decide +kernel
theorem d_Re_item_152 : decode b_Re_item 152 = .ok (.aload_n 0, 1) := by decide +kernel
theorem d_Re_item_153 : decode b_Re_item 153 = .ok (.getfield 267, 3) := by decide +kernel
theorem d_Re_item_156 : decode b_Re_item 156 = .ok (.getfield 328, 3) := by decide +kernel
theorem d_Re_item_159 : decode b_Re_item 159 = .ok (.iload_n 1, 1) := by decide +kernel
theorem d_Re_item_160 : decode b_Re_item 160 = .ok (.aaload, 1) := by decide +kernel
theorem d_Re_item_161 : decode b_Re_item 161 = .ok (.getfield 338, 3) := by decide +kernel
theorem d_Re_item_164 : decode b_Re_item 164 = .ok (.ifnull 7, 3) := by decide +kernel
theorem d_Re_item_167 : decode b_Re_item 167 = .ok (.iconst 1, 1) := by decide +kernel
theorem d_Re_item_168 : decode b_Re_item 168 = .ok (.goto 4, 3) := by decide +kernel
theorem d_Re_item_171 : decode b_Re_item 171 = .ok (.iconst 0, 1) := by decide +kernel
theorem d_Re_item_172 : decode b_Re_item 172 = .ok (.putfield 335, 3) := by decide +kernel
theorem d_Re_item_175 : decode b_Re_item 175 = .ok (.return_, 1) := by decide +kernel
theorem d_Re_item_176 : decode b_Re_item 176 = .ok (.aload_n 0, 1) := by decide +kernel
theorem d_Re_item_177 : decode b_Re_item 177 = .ok (.getfield 267, 3) := by decide +kernel
theorem d_Re_item_180 : decode b_Re_item 180 = .ok (.getfield 342, 3) := by decide +kernel
theorem d_Re_item_183 : decode b_Re_item 183 = .ok (.iload_n 1, 1) := by decide +kernel
theorem d_Re_item_184 : decode b_Re_item 184 = .ok (.aload_n 2, 1) := by decide +kernel
theorem d_Re_item_185 : decode b_Re_item 185 = .ok (.aastore, 1) := by decide +kernel
theorem d_Re_item_186 : decode b_Re_item 186 = .ok (.aload_n 0, 1) := by decide +kernel
theorem d_Re_item_187 : decode b_Re_item 187 = .ok (.getfield 267, 3) := by decide +kernel
theorem d_Re_item_190 : decode b_Re_item 190 = .ok (.dup, 1) := by decide +kernel
theorem d_Re_item_191 : decode b_Re_item 191 = .ok (.getfield 345, 3) := by decide +kernel
theorem d_Re_item_194 : decode b_Re_item 194 = .ok (.iconst 1, 1) := by decide +kernel
theorem d_Re_item_195 : decode b_Re_item 195 = .ok (.iadd, 1) := by decide +kernel
theorem d_Re_item_196 : decode b_Re_item 196 = .ok (.putfield 345, 3) := by decide +kernel
theorem d_Re_item_199 : decode b_Re_item 199 = .ok (.return_, 1) := by decide +kernel
theorem d_Re_source_0 : decode b_Re_source 0 = .ok (.new 348, 3) := by decide +kernel
theorem d_Re_source_3 : decode b_Re_source 3 = .ok (.dup, 1) := by decide +kernel
theorem d_Re_source_4 : decode b_Re_source 4 = .ok (.aload_n 0, 1) := by decide +kernel
