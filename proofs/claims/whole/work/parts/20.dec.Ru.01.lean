theorem d_Ru_init_0 : decode b_Ru_init 0 = .ok (.aload_n 0, 1) := by decide +kernel
theorem d_Ru_init_1 : decode b_Ru_init 1 = .ok (.invokespecial 3, 3) := by decide +kernel
theorem d_Ru_init_4 : decode b_Ru_init 4 = .ok (.aload_n 0, 1) := by decide +kernel
theorem d_Ru_init_5 : decode b_Ru_init 5 = .ok (.iconst 5, 1) := by decide +kernel
theorem d_Ru_init_6 : decode b_Ru_init 6 = .ok (.anewarray 9, 3) := by decide +kernel
theorem d_Ru_init_9 : decode b_Ru_init 9 = .ok (.putfield 11, 3) := by decide +kernel
theorem d_Ru_init_12 : decode b_Ru_init 12 = .ok (.aload_n 0, 1) := by decide +kernel
theorem d_Ru_init_13 : decode b_Ru_init 13 = .ok (.bipush 124, 2) := by decide +kernel
theorem d_Ru_init_15 : decode b_Ru_init 15 = .ok (.newarray .int, 2) := by decide +kernel
theorem d_Ru_init_17 : decode b_Ru_init 17 = .ok (.putfield 17, 3) := by decide +kernel
theorem d_Ru_init_20 : decode b_Ru_init 20 = .ok (.aload_n 0, 1) := by decide +kernel
theorem d_Ru_init_21 : decode b_Ru_init 21 = .ok (.bipush 49, 2) := by decide +kernel
theorem d_Ru_init_23 : decode b_Ru_init 23 = .ok (.newarray .int, 2) := by decide +kernel
theorem d_Ru_init_25 : decode b_Ru_init 25 = .ok (.putfield 21, 3) := by decide +kernel
theorem d_Ru_init_28 : decode b_Ru_init 28 = .ok (.aload_n 0, 1) := by decide +kernel
theorem d_Ru_init_29 : decode b_Ru_init 29 = .ok (.bipush 98, 2) := by decide +kernel
theorem d_Ru_init_31 : decode b_Ru_init 31 = .ok (.newarray .long, 2) := by decide +kernel
theorem d_Ru_init_33 : decode b_Ru_init 33 = .ok (.putfield 24, 3) := by decide +kernel
theorem d_Ru_init_36 : decode b_Ru_init 36 = .ok (.aload_n 0, 1) := by decide +kernel
theorem d_Ru_init_37 : decode b_Ru_init 37 = .ok (.iconst 4, 1) := by decide +kernel
theorem d_Ru_init_38 : decode b_Ru_init 38 = .ok (.newarray .long, 2) := by decide +kernel
theorem d_Ru_init_40 : decode b_Ru_init 40 = .ok (.putfield 28, 3) := by decide +kernel
theorem d_Ru_init_43 : decode b_Ru_init 43 = .ok (.aload_n 0, 1) := by decide +kernel
theorem d_Ru_init_44 : decode b_Ru_init 44 = .ok (.sipush 192, 3) := by decide +kernel
theorem d_Ru_init_47 : decode b_Ru_init 47 = .ok (.newarray .long, 2) := by decide +kernel
theorem d_Ru_init_49 : decode b_Ru_init 49 = .ok (.putfield 31, 3) := by decide +kernel
theorem d_Ru_init_52 : decode b_Ru_init 52 = .ok (.aload_n 0, 1) := by decide +kernel
theorem d_Ru_init_53 : decode b_Ru_init 53 = .ok (.sipush 192, 3) := by decide +kernel
theorem d_Ru_init_56 : decode b_Ru_init 56 = .ok (.newarray .int, 2) := by decide +kernel
theorem d_Ru_init_58 : decode b_Ru_init 58 = .ok (.putfield 34, 3) := by decide +kernel
theorem d_Ru_init_61 : decode b_Ru_init 61 = .ok (.iconst 0, 1) := by decide +kernel
theorem d_Ru_init_62 : decode b_Ru_init 62 = .ok (.istore_n 1, 1) := by decide +kernel
theorem d_Ru_init_63 : decode b_Ru_init 63 = .ok (.iload_n 1, 1) := by decide +kernel
theorem d_Ru_init_64 : decode b_Ru_init 64 = .ok (.iconst 4, 1) := by decide +kernel
theorem d_Ru_init_65 : decode b_Ru_init 65 = .ok (.if_icmp .gt 25, 3) := by decide +kernel
theorem d_Ru_init_68 : decode b_Ru_init 68 = .ok (.aload_n 0, 1) := by decide +kernel
theorem d_Ru_init_69 : decode b_Ru_init 69 = .ok (.getfield 11, 3) := by decide +kernel
theorem d_Ru_init_72 : decode b_Ru_init 72 = .ok (.iload_n 1, 1) := by decide +kernel
theorem d_Ru_init_73 : decode b_Ru_init 73 = .ok (.new 9, 3) := by decide +kernel
theorem d_Ru_init_76 : decode b_Ru_init 76 = .ok (.dup, 1) := by decide +kernel
theorem d_Ru_init_77 : decode b_Ru_init 77 = .ok (.bipush 48, 2) := by decide +kernel
theorem d_Ru_init_79 : decode b_Ru_init 79 = .ok (.iconst 4, 1) := by decide +kernel
theorem d_Ru_init_80 : decode b_Ru_init 80 = .ok (.invokespecial 37, 3) := by decide +kernel
theorem d_Ru_init_83 : decode b_Ru_init 83 = .ok (.aastore, 1) := by decide +kernel
theorem d_Ru_init_84 : decode b_Ru_init 84 = .ok (.iinc 1 1, 3) := by decide +kernel
theorem d_Ru_init_87 : decode b_Ru_init 87 = .ok (.goto (-24), 3) := by decide +kernel
theorem d_Ru_init_90 : decode b_Ru_init 90 = .ok (.return_, 1) := by decide +kernel
theorem d_Ru_begin_0 : decode b_Ru_begin 0 = .ok (.aload_n 0, 1) := by decide +kernel
theorem d_Ru_begin_1 : decode b_Ru_begin 1 = .ok (.aload_n 1, 1) := by decide +kernel
theorem d_Ru_begin_2 : decode b_Ru_begin 2 = .ok (.putfield 40, 3) := by decide +kernel
theorem d_Ru_begin_5 : decode b_Ru_begin 5 = .ok (.aload_n 0, 1) := by decide +kernel
theorem d_Ru_begin_6 : decode b_Ru_begin 6 = .ok (.aload_n 2, 1) := by decide +kernel
theorem d_Ru_begin_7 : decode b_Ru_begin 7 = .ok (.putfield 44, 3) := by decide +kernel
theorem d_Ru_begin_10 : decode b_Ru_begin 10 = .ok (.aload_n 0, 1) := by decide +kernel
theorem d_Ru_begin_11 : decode b_Ru_begin 11 = .ok (.iload_n 3, 1) := by decide +kernel
theorem d_Ru_begin_12 : decode b_Ru_begin 12 = .ok (.putfield 47, 3) := by decide +kernel
theorem d_Ru_begin_15 : decode b_Ru_begin 15 = .ok (.aload_n 0, 1) := by decide +kernel
theorem d_Ru_begin_16 : decode b_Ru_begin 16 = .ok (.iload 4, 2) := by decide +kernel
theorem d_Ru_begin_18 : decode b_Ru_begin 18 = .ok (.putfield 51, 3) := by decide +kernel
theorem d_Ru_begin_21 : decode b_Ru_begin 21 = .ok (.aload_n 0, 1) := by decide +kernel
theorem d_Ru_begin_22 : decode b_Ru_begin 22 = .ok (.iconst 0, 1) := by decide +kernel
theorem d_Ru_begin_23 : decode b_Ru_begin 23 = .ok (.putfield 54, 3) := by decide +kernel
theorem d_Ru_begin_26 : decode b_Ru_begin 26 = .ok (.iconst 0, 1) := by decide +kernel
theorem d_Ru_begin_27 : decode b_Ru_begin 27 = .ok (.istore 5, 2) := by decide +kernel
theorem d_Ru_begin_29 : decode b_Ru_begin 29 = .ok (.iload 5, 2) := by decide +kernel
theorem d_Ru_begin_31 : decode b_Ru_begin 31 = .ok (.iconst 4, 1) := by decide +kernel
theorem d_Ru_begin_32 : decode b_Ru_begin 32 = .ok (.if_icmp .gt 19, 3) := by decide +kernel
theorem d_Ru_begin_35 : decode b_Ru_begin 35 = .ok (.aload_n 0, 1) := by decide +kernel
theorem d_Ru_begin_36 : decode b_Ru_begin 36 = .ok (.getfield 11, 3) := by decide +kernel
theorem d_Ru_begin_39 : decode b_Ru_begin 39 = .ok (.iload 5, 2) := by decide +kernel
theorem d_Ru_begin_41 : decode b_Ru_begin 41 = .ok (.aaload, 1) := by decide +kernel
theorem d_Ru_begin_42 : decode b_Ru_begin 42 = .ok (.invokevirtual 57, 3) := by decide +kernel
theorem d_Ru_begin_45 : decode b_Ru_begin 45 = .ok (.iinc 5 1, 3) := by decide +kernel
theorem d_Ru_begin_48 : decode b_Ru_begin 48 = .ok (.goto (-19), 3) := by decide +kernel
theorem d_Ru_begin_51 : decode b_Ru_begin 51 = .ok (.return_, 1) := by decide +kernel
theorem d_Ru_beginRound_0 : decode b_Ru_beginRound 0 = .ok (.iconst 0, 1) := by decide +kernel
theorem d_Ru_beginRound_1 : decode b_Ru_beginRound 1 = .ok (.istore_n 2, 1) := by decide +kernel
theorem d_Ru_beginRound_2 : decode b_Ru_beginRound 2 = .ok (.iconst 0, 1) := by decide +kernel
theorem d_Ru_beginRound_3 : decode b_Ru_beginRound 3 = .ok (.istore_n 3, 1) := by decide +kernel
theorem d_Ru_beginRound_4 : decode b_Ru_beginRound 4 = .ok (.iload_n 3, 1) := by decide +kernel
theorem d_Ru_beginRound_5 : decode b_Ru_beginRound 5 = .ok (.aload_n 0, 1) := by decide +kernel
theorem d_Ru_beginRound_6 : decode b_Ru_beginRound 6 = .ok (.getfield 40, 3) := by decide +kernel
theorem d_Ru_beginRound_9 : decode b_Ru_beginRound 9 = .ok (.getfield 64, 3) := by decide +kernel
theorem d_Ru_beginRound_12 : decode b_Ru_beginRound 12 = .ok (.if_icmp .ge 47, 3) := by decide +kernel
theorem d_Ru_beginRound_15 : decode b_Ru_beginRound 15 = .ok (.aload_n 0, 1) := by decide +kernel
theorem d_Ru_beginRound_16 : decode b_Ru_beginRound 16 = .ok (.getfield 40, 3) := by decide +kernel
theorem d_Ru_beginRound_19 : decode b_Ru_beginRound 19 = .ok (.getfield 69, 3) := by decide +kernel
theorem d_Ru_beginRound_22 : decode b_Ru_beginRound 22 = .ok (.iload_n 3, 1) := by decide +kernel
theorem d_Ru_beginRound_23 : decode b_Ru_beginRound 23 = .ok (.aaload, 1) := by decide +kernel
theorem d_Ru_beginRound_24 : decode b_Ru_beginRound 24 = .ok (.getfield 78, 3) := by decide +kernel
theorem d_Ru_beginRound_27 : decode b_Ru_beginRound 27 = .ok (.iload_n 1, 1) := by decide +kernel
theorem d_Ru_beginRound_28 : decode b_Ru_beginRound 28 = .ok (.if_icmp .ne 25, 3) := by decide +kernel
theorem d_Ru_beginRound_31 : decode b_Ru_beginRound 31 = .ok (.aload_n 0, 1) := by decide +kernel
theorem d_Ru_beginRound_32 : decode b_Ru_beginRound 32 = .ok (.getfield 11, 3) := by decide +kernel
theorem d_Ru_beginRound_35 : decode b_Ru_beginRound 35 = .ok (.iload_n 3, 1) := by decide +kernel
theorem d_Ru_beginRound_36 : decode b_Ru_beginRound 36 = .ok (.aaload, 1) := by decide +kernel
theorem d_Ru_beginRound_37 : decode b_Ru_beginRound 37 = .ok (.invokevirtual 101, 3) := by decide +kernel
theorem d_Ru_beginRound_40 : decode b_Ru_beginRound 40 = .ok (.aload_n 0, 1) := by decide +kernel
theorem d_Ru_beginRound_41 : decode b_Ru_beginRound 41 = .ok (.getfield 40, 3) := by decide +kernel
theorem d_Ru_beginRound_44 : decode b_Ru_beginRound 44 = .ok (.getfield 69, 3) := by decide +kernel
theorem d_Ru_beginRound_47 : decode b_Ru_beginRound 47 = .ok (.iload_n 3, 1) := by decide +kernel
theorem d_Ru_beginRound_48 : decode b_Ru_beginRound 48 = .ok (.aaload, 1) := by decide +kernel
theorem d_Ru_beginRound_49 : decode b_Ru_beginRound 49 = .ok (.getfield 103, 3) := by decide +kernel
theorem d_Ru_beginRound_52 : decode b_Ru_beginRound 52 = .ok (.istore_n 2, 1) := by decide +kernel
theorem d_Ru_beginRound_53 : decode b_Ru_beginRound 53 = .ok (.iinc 3 1, 3) := by decide +kernel
theorem d_Ru_beginRound_56 : decode b_Ru_beginRound 56 = .ok (.goto (-52), 3) := by decide +kernel
theorem d_Ru_beginRound_59 : decode b_Ru_beginRound 59 = .ok (.iload_n 2, 1) := by decide +kernel
theorem d_Ru_beginRound_60 : decode b_Ru_beginRound 60 = .ok (.ireturn, 1) := by decide +kernel
theorem d_Ru_addGroup_0 : decode b_Ru_addGroup 0 = .ok (.iconst 0, 1) := by decide +kernel
theorem d_Ru_addGroup_1 : decode b_Ru_addGroup 1 = .ok (.istore_n 1, 1) := by decide +kernel
theorem d_Ru_addGroup_2 : decode b_Ru_addGroup 2 = .ok (.iload_n 1, 1) := by decide +kernel
theorem d_Ru_addGroup_3 : decode b_Ru_addGroup 3 = .ok (.aload_n 0, 1) := by decide +kernel
theorem d_Ru_addGroup_4 : decode b_Ru_addGroup 4 = .ok (.getfield 107, 3) := by decide +kernel
theorem d_Ru_addGroup_7 : decode b_Ru_addGroup 7 = .ok (.getfield 131, 3) := by decide +kernel
theorem d_Ru_addGroup_10 : decode b_Ru_addGroup 10 = .ok (.if_icmp .ge 53, 3) := by decide +kernel
theorem d_Ru_addGroup_13 : decode b_Ru_addGroup 13 = .ok (.aload_n 0, 1) := by decide +kernel
theorem d_Ru_addGroup_14 : decode b_Ru_addGroup 14 = .ok (.getfield 125, 3) := by decide +kernel
theorem d_Ru_addGroup_17 : decode b_Ru_addGroup 17 = .ok (.iconst 4, 1) := by decide +kernel
theorem d_Ru_addGroup_18 : decode b_Ru_addGroup 18 = .ok (.imul, 1) := by decide +kernel
theorem d_Ru_addGroup_19 : decode b_Ru_addGroup 19 = .ok (.iload_n 1, 1) := by decide +kernel
theorem d_Ru_addGroup_20 : decode b_Ru_addGroup 20 = .ok (.iadd, 1) := by decide +kernel
theorem d_Ru_addGroup_21 : decode b_Ru_addGroup 21 = .ok (.istore_n 2, 1) := by decide +kernel
theorem d_Ru_addGroup_22 : decode b_Ru_addGroup 22 = .ok (.aload_n 0, 1) := by decide +kernel
theorem d_Ru_addGroup_23 : decode b_Ru_addGroup 23 = .ok (.getfield 31, 3) := by decide +kernel
theorem d_Ru_addGroup_26 : decode b_Ru_addGroup 26 = .ok (.iload_n 2, 1) := by decide +kernel
theorem d_Ru_addGroup_27 : decode b_Ru_addGroup 27 = .ok (.aload_n 0, 1) := by decide +kernel
theorem d_Ru_addGroup_28 : decode b_Ru_addGroup 28 = .ok (.getfield 107, 3) := by decide +kernel
theorem d_Ru_addGroup_31 : decode b_Ru_addGroup 31 = .ok (.getfield 272, 3) := by decide +kernel
theorem d_Ru_addGroup_34 : decode b_Ru_addGroup 34 = .ok (.iload_n 1, 1) := by decide +kernel
theorem d_Ru_addGroup_35 : decode b_Ru_addGroup 35 = .ok (.aaload, 1) := by decide +kernel
theorem d_Ru_addGroup_36 : decode b_Ru_addGroup 36 = .ok (.ifnonnull 12, 3) := by decide +kernel
theorem d_Ru_addGroup_39 : decode b_Ru_addGroup 39 = .ok (.aload_n 0, 1) := by decide +kernel
theorem d_Ru_addGroup_40 : decode b_Ru_addGroup 40 = .ok (.getfield 28, 3) := by decide +kernel
theorem d_Ru_addGroup_43 : decode b_Ru_addGroup 43 = .ok (.iload_n 1, 1) := by decide +kernel
theorem d_Ru_addGroup_44 : decode b_Ru_addGroup 44 = .ok (.laload, 1) := by decide +kernel
theorem d_Ru_addGroup_45 : decode b_Ru_addGroup 45 = .ok (.goto 4, 3) := by decide +kernel
theorem d_Ru_addGroup_48 : decode b_Ru_addGroup 48 = .ok (.lconst 0, 1) := by decide +kernel
theorem d_Ru_addGroup_49 : decode b_Ru_addGroup 49 = .ok (.lastore, 1) := by decide +kernel
theorem d_Ru_addGroup_50 : decode b_Ru_addGroup 50 = .ok (.aload_n 0, 1) := by decide +kernel
theorem d_Ru_addGroup_51 : decode b_Ru_addGroup 51 = .ok (.getfield 34, 3) := by decide +kernel
theorem d_Ru_addGroup_54 : decode b_Ru_addGroup 54 = .ok (.iload_n 2, 1) := by decide +kernel
theorem d_Ru_addGroup_55 : decode b_Ru_addGroup 55 = .ok (.iconst 0, 1) := by decide +kernel
theorem d_Ru_addGroup_56 : decode b_Ru_addGroup 56 = .ok (.iastore, 1) := by decide +kernel
theorem d_Ru_addGroup_57 : decode b_Ru_addGroup 57 = .ok (.iinc 1 1, 3) := by decide +kernel
theorem d_Ru_addGroup_60 : decode b_Ru_addGroup 60 = .ok (.goto (-58), 3) := by decide +kernel
theorem d_Ru_addGroup_63 : decode b_Ru_addGroup 63 = .ok (.aload_n 0, 1) := by decide +kernel
theorem d_Ru_addGroup_64 : decode b_Ru_addGroup 64 = .ok (.dup, 1) := by decide +kernel
theorem d_Ru_addGroup_65 : decode b_Ru_addGroup 65 = .ok (.getfield 125, 3) := by decide +kernel
theorem d_Ru_addGroup_68 : decode b_Ru_addGroup 68 = .ok (.iconst 1, 1) := by decide +kernel
theorem d_Ru_addGroup_69 : decode b_Ru_addGroup 69 = .ok (.iadd, 1) := by decide +kernel
theorem d_Ru_addGroup_70 : decode b_Ru_addGroup 70 = .ok (.putfield 125, 3) := by decide +kernel
theorem d_Ru_addGroup_73 : decode b_Ru_addGroup 73 = .ok (.return_, 1) := by decide +kernel
theorem d_Ru_bind_0 : decode b_Ru_bind 0 = .ok (.aload_n 1, 1) := by decide +kernel
theorem d_Ru_bind_1 : decode b_Ru_bind 1 = .ok (.iconst 0, 1) := by decide +kernel
theorem d_Ru_bind_2 : decode b_Ru_bind 2 = .ok (.putfield 170, 3) := by decide +kernel
theorem d_Ru_bind_5 : decode b_Ru_bind 5 = .ok (.aload_n 1, 1) := by decide +kernel
theorem d_Ru_bind_6 : decode b_Ru_bind 6 = .ok (.iconst 0, 1) := by decide +kernel
theorem d_Ru_bind_7 : decode b_Ru_bind 7 = .ok (.putfield 175, 3) := by decide +kernel
theorem d_Ru_bind_10 : decode b_Ru_bind 10 = .ok (.aload_n 1, 1) := by decide +kernel
theorem d_Ru_bind_11 : decode b_Ru_bind 11 = .ok (.getfield 178, 3) := by decide +kernel
theorem d_Ru_bind_14 : decode b_Ru_bind 14 = .ok (.ifCond .ge 28, 3) := by decide +kernel
theorem d_Ru_bind_17 : decode b_Ru_bind 17 = .ok (.aload_n 1, 1) := by decide +kernel
theorem d_Ru_bind_18 : decode b_Ru_bind 18 = .ok (.aload_n 0, 1) := by decide +kernel
theorem d_Ru_bind_19 : decode b_Ru_bind 19 = .ok (.getfield 44, 3) := by decide +kernel
theorem d_Ru_bind_22 : decode b_Ru_bind 22 = .ok (.aload_n 1, 1) := by decide +kernel
theorem d_Ru_bind_23 : decode b_Ru_bind 23 = .ok (.getfield 180, 3) := by decide +kernel
theorem d_Ru_bind_26 : decode b_Ru_bind 26 = .ok (.aaload, 1) := by decide +kernel
theorem d_Ru_bind_27 : decode b_Ru_bind 27 = .ok (.putfield 183, 3) := by decide +kernel
theorem d_Ru_bind_30 : decode b_Ru_bind 30 = .ok (.aload_n 1, 1) := by decide +kernel
theorem d_Ru_bind_31 : decode b_Ru_bind 31 = .ok (.aload_n 1, 1) := by decide +kernel
theorem d_Ru_bind_32 : decode b_Ru_bind 32 = .ok (.getfield 183, 3) := by decide +kernel
theorem d_Ru_bind_35 : decode b_Ru_bind 35 = .ok (.getfield 186, 3) := by decide +kernel
theorem d_Ru_bind_38 : decode b_Ru_bind 38 = .ok (.putfield 189, 3) := by decide +kernel
theorem d_Ru_bind_41 : decode b_Ru_bind 41 = .ok (.return_, 1) := by decide +kernel
theorem d_Ru_bind_42 : decode b_Ru_bind 42 = .ok (.aload_n 0, 1) := by decide +kernel
theorem d_Ru_bind_43 : decode b_Ru_bind 43 = .ok (.getfield 40, 3) := by decide +kernel
theorem d_Ru_bind_46 : decode b_Ru_bind 46 = .ok (.getfield 69, 3) := by decide +kernel
theorem d_Ru_bind_49 : decode b_Ru_bind 49 = .ok (.aload_n 1, 1) := by decide +kernel
theorem d_Ru_bind_50 : decode b_Ru_bind 50 = .ok (.getfield 178, 3) := by decide +kernel
theorem d_Ru_bind_53 : decode b_Ru_bind 53 = .ok (.aaload, 1) := by decide +kernel
theorem d_Ru_bind_54 : decode b_Ru_bind 54 = .ok (.astore_n 2, 1) := by decide +kernel
theorem d_Ru_bind_55 : decode b_Ru_bind 55 = .ok (.aload_n 1, 1) := by decide +kernel
theorem d_Ru_bind_56 : decode b_Ru_bind 56 = .ok (.aload_n 0, 1) := by decide +kernel
theorem d_Ru_bind_57 : decode b_Ru_bind 57 = .ok (.getfield 11, 3) := by decide +kernel
theorem d_Ru_bind_60 : decode b_Ru_bind 60 = .ok (.aload_n 1, 1) := by decide +kernel
theorem d_Ru_bind_61 : decode b_Ru_bind 61 = .ok (.getfield 178, 3) := by decide +kernel
theorem d_Ru_bind_64 : decode b_Ru_bind 64 = .ok (.aaload, 1) := by decide +kernel
theorem d_Ru_bind_65 : decode b_Ru_bind 65 = .ok (.putfield 183, 3) := by decide +kernel
theorem d_Ru_bind_68 : decode b_Ru_bind 68 = .ok (.aload_n 1, 1) := by decide +kernel
theorem d_Ru_bind_69 : decode b_Ru_bind 69 = .ok (.aload_n 1, 1) := by decide +kernel
theorem d_Ru_bind_70 : decode b_Ru_bind 70 = .ok (.getfield 183, 3) := by decide +kernel
theorem d_Ru_bind_73 : decode b_Ru_bind 73 = .ok (.getfield 186, 3) := by decide +kernel
theorem d_Ru_bind_76 : decode b_Ru_bind 76 = .ok (.putfield 189, 3) := by decide +kernel
theorem d_Ru_bind_79 : decode b_Ru_bind 79 = .ok (.aload_n 0, 1) := by decide +kernel
theorem d_Ru_bind_80 : decode b_Ru_bind 80 = .ok (.getfield 111, 3) := by decide +kernel
theorem d_Ru_bind_83 : decode b_Ru_bind 83 = .ok (.ifnull 58, 3) := by decide +kernel
theorem d_Ru_bind_86 : decode b_Ru_bind 86 = .ok (.aload_n 0, 1) := by decide +kernel
theorem d_Ru_bind_87 : decode b_Ru_bind 87 = .ok (.getfield 111, 3) := by decide +kernel
theorem d_Ru_bind_90 : decode b_Ru_bind 90 = .ok (.getfield 78, 3) := by decide +kernel
theorem d_Ru_bind_93 : decode b_Ru_bind 93 = .ok (.aload_n 2, 1) := by decide +kernel
theorem d_Ru_bind_94 : decode b_Ru_bind 94 = .ok (.getfield 78, 3) := by decide +kernel
theorem d_Ru_bind_97 : decode b_Ru_bind 97 = .ok (.if_icmp .ne 44, 3) := by decide +kernel
theorem d_Ru_bind_100 : decode b_Ru_bind 100 = .ok (.aload_n 1, 1) := by decide +kernel
theorem d_Ru_bind_101 : decode b_Ru_bind 101 = .ok (.aload_n 2, 1) := by decide +kernel
theorem d_Ru_bind_102 : decode b_Ru_bind 102 = .ok (.getfield 192, 3) := by decide +kernel
theorem d_Ru_bind_105 : decode b_Ru_bind 105 = .ok (.ifCond .eq 13, 3) := by decide +kernel
theorem d_Ru_bind_108 : decode b_Ru_bind 108 = .ok (.aload_n 1, 1) := by decide +kernel
theorem d_Ru_bind_109 : decode b_Ru_bind 109 = .ok (.getfield 183, 3) := by decide +kernel
theorem d_Ru_bind_112 : decode b_Ru_bind 112 = .ok (.getfield 195, 3) := by decide +kernel
theorem d_Ru_bind_115 : decode b_Ru_bind 115 = .ok (.goto 4, 3) := by decide +kernel
theorem d_Ru_bind_118 : decode b_Ru_bind 118 = .ok (.iconst 0, 1) := by decide +kernel
theorem d_Ru_bind_119 : decode b_Ru_bind 119 = .ok (.putfield 175, 3) := by decide +kernel
theorem d_Ru_bind_122 : decode b_Ru_bind 122 = .ok (.aload_n 1, 1) := by decide +kernel
theorem d_Ru_bind_123 : decode b_Ru_bind 123 = .ok (.aload_n 1, 1) := by decide +kernel
theorem d_Ru_bind_124 : decode b_Ru_bind 124 = .ok (.getfield 183, 3) := by decide +kernel
theorem d_Ru_bind_127 : decode b_Ru_bind 127 = .ok (.getfield 198, 3) := by decide +kernel
theorem d_Ru_bind_130 : decode b_Ru_bind 130 = .ok (.putfield 189, 3) := by decide +kernel
theorem d_Ru_bind_133 : decode b_Ru_bind 133 = .ok (.aload_n 1, 1) := by decide +kernel
theorem d_Ru_bind_134 : decode b_Ru_bind 134 = .ok (.aload_n 2, 1) := by decide +kernel
theorem d_Ru_bind_135 : decode b_Ru_bind 135 = .ok (.getfield 201, 3) := by decide +kernel
theorem d_Ru_bind_138 : decode b_Ru_bind 138 = .ok (.putfield 170, 3) := by decide +kernel
theorem d_Ru_bind_141 : decode b_Ru_bind 141 = .ok (.return_, 1) := by decide +kernel
theorem d_Ru_compares_0 : decode b_Ru_compares 0 = .ok (.aload_n 0, 1) := by decide +kernel
theorem d_Ru_compares_1 : decode b_Ru_compares 1 = .ok (.getfield 235, 3) := by decide +kernel
theorem d_Ru_compares_4 : decode b_Ru_compares 4 = .ok (.invokevirtual 239, 3) := by decide +kernel
theorem d_Ru_compares_7 : decode b_Ru_compares 7 = .ok (.lstore_n 1, 1) := by decide +kernel
theorem d_Ru_compares_8 : decode b_Ru_compares 8 = .ok (.aload_n 0, 1) := by decide +kernel
theorem d_Ru_compares_9 : decode b_Ru_compares 9 = .ok (.getfield 245, 3) := by decide +kernel
theorem d_Ru_compares_12 : decode b_Ru_compares 12 = .ok (.getstatic 249, 3) := by decide +kernel
theorem d_Ru_compares_15 : decode b_Ru_compares 15 = .ok (.if_acmp .ne 17, 3) := by decide +kernel
theorem d_Ru_compares_18 : decode b_Ru_compares 18 = .ok (.lload_n 1, 1) := by decide +kernel
theorem d_Ru_compares_19 : decode b_Ru_compares 19 = .ok (.ldc2_w 254, 3) := by decide +kernel
theorem d_Ru_compares_22 : decode b_Ru_compares 22 = .ok (.lcmp, 1) := by decide +kernel
theorem d_Ru_compares_23 : decode b_Ru_compares 23 = .ok (.ifCond .ne 7, 3) := by decide +kernel
theorem d_Ru_compares_26 : decode b_Ru_compares 26 = .ok (.iconst 1, 1) := by decide +kernel
theorem d_Ru_compares_27 : decode b_Ru_compares 27 = .ok (.goto 4, 3) := by decide +kernel
theorem d_Ru_compares_30 : decode b_Ru_compares 30 = .ok (.iconst 0, 1) := by decide +kernel
theorem d_Ru_compares_31 : decode b_Ru_compares 31 = .ok (.ireturn, 1) := by decide +kernel
theorem d_Ru_compares_32 : decode b_Ru_compares 32 = .ok (.aload_n 0, 1) := by decide +kernel
theorem d_Ru_compares_33 : decode b_Ru_compares 33 = .ok (.getfield 256, 3) := by decide +kernel
theorem d_Ru_compares_36 : decode b_Ru_compares 36 = .ok (.ifnonnull 9, 3) := by decide +kernel
theorem d_Ru_compares_39 : decode b_Ru_compares 39 = .ok (.ldc2_w 254, 3) := by decide +kernel
theorem d_Ru_compares_42 : decode b_Ru_compares 42 = .ok (.goto 10, 3) := by decide +kernel
theorem d_Ru_compares_45 : decode b_Ru_compares 45 = .ok (.aload_n 0, 1) := by decide +kernel
theorem d_Ru_compares_46 : decode b_Ru_compares 46 = .ok (.getfield 256, 3) := by decide +kernel
theorem d_Ru_compares_49 : decode b_Ru_compares 49 = .ok (.invokevirtual 239, 3) := by decide +kernel
theorem d_Ru_compares_52 : decode b_Ru_compares 52 = .ok (.lstore_n 3, 1) := by decide +kernel
theorem d_Ru_compares_53 : decode b_Ru_compares 53 = .ok (.lload_n 1, 1) := by decide +kernel
theorem d_Ru_compares_54 : decode b_Ru_compares 54 = .ok (.ldc2_w 254, 3) := by decide +kernel
theorem d_Ru_compares_57 : decode b_Ru_compares 57 = .ok (.lcmp, 1) := by decide +kernel
theorem d_Ru_compares_58 : decode b_Ru_compares 58 = .ok (.ifCond .eq 11, 3) := by decide +kernel
theorem d_Ru_compares_61 : decode b_Ru_compares 61 = .ok (.lload_n 3, 1) := by decide +kernel
theorem d_Ru_compares_62 : decode b_Ru_compares 62 = .ok (.ldc2_w 254, 3) := by decide +kernel
theorem d_Ru_compares_65 : decode b_Ru_compares 65 = .ok (.lcmp, 1) := by decide +kernel
theorem d_Ru_compares_66 : decode b_Ru_compares 66 = .ok (.ifCond .ne 5, 3) := by decide +kernel
theorem d_Ru_compares_69 : decode b_Ru_compares 69 = .ok (.iconst 0, 1) := by decide +kernel
theorem d_Ru_compares_70 : decode b_Ru_compares 70 = .ok (.ireturn, 1) := by decide +kernel
theorem d_Ru_compares_71 : decode b_Ru_compares 71 = .ok (.getstatic 259, 3) := by decide +kernel
theorem d_Ru_compares_74 : decode b_Ru_compares 74 = .ok (.aload_n 0, 1) := by decide +kernel
theorem d_Ru_compares_75 : decode b_Ru_compares 75 = .ok (.getfield 245, 3) := by decide +kernel
theorem d_Ru_compares_78 : decode b_Ru_compares 78 = .ok (.invokevirtual 264, 3) := by decide +kernel
theorem d_Ru_compares_81 : decode b_Ru_compares 81 = .ok (.iaload, 1) := by decide +kernel
theorem d_Ru_compares_82 : decode b_Ru_compares 82 = .ok (.tableswitch 78 1 4 #[30, 42, 54, 66], 30) := by decide +kernel
theorem d_Ru_compares_112 : decode b_Ru_compares 112 = .ok (.lload_n 1, 1) := by decide +kernel
theorem d_Ru_compares_113 : decode b_Ru_compares 113 = .ok (.lload_n 3, 1) := by decide +kernel
theorem d_Ru_compares_114 : decode b_Ru_compares 114 = .ok (.lcmp, 1) := by decide +kernel
theorem d_Ru_compares_115 : decode b_Ru_compares 115 = .ok (.ifCond .ne 7, 3) := by decide +kernel
theorem d_Ru_compares_118 : decode b_Ru_compares 118 = .ok (.iconst 1, 1) := by decide +kernel
theorem d_Ru_compares_119 : decode b_Ru_compares 119 = .ok (.goto 4, 3) := by decide +kernel
theorem d_Ru_compares_122 : decode b_Ru_compares 122 = .ok (.iconst 0, 1) := by decide +kernel
theorem d_Ru_compares_123 : decode b_Ru_compares 123 = .ok (.ireturn, 1) := by decide +kernel
theorem d_Ru_compares_124 : decode b_Ru_compares 124 = .ok (.lload_n 1, 1) := by decide +kernel
theorem d_Ru_compares_125 : decode b_Ru_compares 125 = .ok (.lload_n 3, 1) := by decide +kernel
theorem d_Ru_compares_126 : decode b_Ru_compares 126 = .ok (.lcmp, 1) := by decide +kernel
theorem d_Ru_compares_127 : decode b_Ru_compares 127 = .ok (.ifCond .eq 7, 3) := by decide +kernel
theorem d_Ru_compares_130 : decode b_Ru_compares 130 = .ok (.iconst 1, 1) := by decide +kernel
theorem d_Ru_compares_131 : decode b_Ru_compares 131 = .ok (.goto 4, 3) := by decide +kernel
theorem d_Ru_compares_134 : decode b_Ru_compares 134 = .ok (.iconst 0, 1) := by decide +kernel
theorem d_Ru_compares_135 : decode b_Ru_compares 135 = .ok (.ireturn, 1) := by decide +kernel
theorem d_Ru_compares_136 : decode b_Ru_compares 136 = .ok (.lload_n 1, 1) := by decide +kernel
theorem d_Ru_compares_137 : decode b_Ru_compares 137 = .ok (.lload_n 3, 1) := by decide +kernel
theorem d_Ru_compares_138 : decode b_Ru_compares 138 = .ok (.lcmp, 1) := by decide +kernel
theorem d_Ru_compares_139 : decode b_Ru_compares 139 = .ok (.ifCond .ge 7, 3) := by decide +kernel
theorem d_Ru_compares_142 : decode b_Ru_compares 142 = .ok (.iconst 1, 1) := by decide +kernel
theorem d_Ru_compares_143 : decode b_Ru_compares 143 = .ok (.goto 4, 3) := by decide +kernel
theorem d_Ru_compares_146 : decode b_Ru_compares 146 = .ok (.iconst 0, 1) := by decide +kernel
theorem d_Ru_compares_147 : decode b_Ru_compares 147 = .ok (.ireturn, 1) := by decide +kernel
theorem d_Ru_compares_148 : decode b_Ru_compares 148 = .ok (.lload_n 1, 1) := by decide +kernel
theorem d_Ru_compares_149 : decode b_Ru_compares 149 = .ok (.lload_n 3, 1) := by decide +kernel
theorem d_Ru_compares_150 : decode b_Ru_compares 150 = .ok (.lcmp, 1) := by decide +kernel
theorem d_Ru_compares_151 : decode b_Ru_compares 151 = .ok (.ifCond .le 7, 3) := by decide +kernel
theorem d_Ru_compares_154 : decode b_Ru_compares 154 = .ok (.iconst 1, 1) := by decide +kernel
theorem d_Ru_compares_155 : decode b_Ru_compares 155 = .ok (.goto 4, 3) := by decide +kernel
theorem d_Ru_compares_158 : decode b_Ru_compares 158 = .ok (.iconst 0, 1) := by decide +kernel
theorem d_Ru_compares_159 : decode b_Ru_compares 159 = .ok (.ireturn, 1) := by decide +kernel
theorem d_Ru_compares_160 : decode b_Ru_compares 160 = .ok (.iconst 0, 1) := by decide +kernel
theorem d_Ru_compares_161 : decode b_Ru_compares 161 = .ok (.ireturn, 1) := by decide +kernel
theorem d_Ru_exists_0 : decode b_Ru_exists 0 = .ok (.aload_n 0, 1) := by decide +kernel
theorem d_Ru_exists_1 : decode b_Ru_exists 1 = .ok (.getfield 155, 3) := by decide +kernel
theorem d_Ru_exists_4 : decode b_Ru_exists 4 = .ok (.astore_n 1, 1) := by decide +kernel
theorem d_Ru_exists_5 : decode b_Ru_exists 5 = .ok (.aload_n 1, 1) := by decide +kernel
theorem d_Ru_exists_6 : decode b_Ru_exists 6 = .ok (.getfield 175, 3) := by decide +kernel
theorem d_Ru_exists_9 : decode b_Ru_exists 9 = .ok (.istore_n 2, 1) := by decide +kernel
theorem d_Ru_exists_10 : decode b_Ru_exists 10 = .ok (.iload_n 2, 1) := by decide +kernel
theorem d_Ru_exists_11 : decode b_Ru_exists 11 = .ok (.aload_n 1, 1) := by decide +kernel
theorem d_Ru_exists_12 : decode b_Ru_exists 12 = .ok (.getfield 189, 3) := by decide +kernel
theorem d_Ru_exists_15 : decode b_Ru_exists 15 = .ok (.if_icmp .ge 55, 3) := by decide +kernel
theorem d_Ru_exists_18 : decode b_Ru_exists 18 = .ok (.aload_n 1, 1) := by decide +kernel
theorem d_Ru_exists_19 : decode b_Ru_exists 19 = .ok (.iload_n 2, 1) := by decide +kernel
theorem d_Ru_exists_20 : decode b_Ru_exists 20 = .ok (.putfield 217, 3) := by decide +kernel
theorem d_Ru_exists_23 : decode b_Ru_exists 23 = .ok (.iconst 1, 1) := by decide +kernel
theorem d_Ru_exists_24 : decode b_Ru_exists 24 = .ok (.istore_n 3, 1) := by decide +kernel
theorem d_Ru_exists_25 : decode b_Ru_exists 25 = .ok (.iconst 0, 1) := by decide +kernel
theorem d_Ru_exists_26 : decode b_Ru_exists 26 = .ok (.istore 4, 2) := by decide +kernel
theorem d_Ru_exists_28 : decode b_Ru_exists 28 = .ok (.iload 4, 2) := by decide +kernel
theorem d_Ru_exists_30 : decode b_Ru_exists 30 = .ok (.aload_n 0, 1) := by decide +kernel
theorem d_Ru_exists_31 : decode b_Ru_exists 31 = .ok (.getfield 229, 3) := by decide +kernel
theorem d_Ru_exists_34 : decode b_Ru_exists 34 = .ok (.if_icmp .ge 24, 3) := by decide +kernel
theorem d_Ru_exists_37 : decode b_Ru_exists 37 = .ok (.iload_n 3, 1) := by decide +kernel
theorem d_Ru_exists_38 : decode b_Ru_exists 38 = .ok (.ifCond .eq 20, 3) := by decide +kernel
theorem d_Ru_exists_41 : decode b_Ru_exists 41 = .ok (.aload_n 0, 1) := by decide +kernel
theorem d_Ru_exists_42 : decode b_Ru_exists 42 = .ok (.getfield 232, 3) := by decide +kernel
theorem d_Ru_exists_45 : decode b_Ru_exists 45 = .ok (.iload 4, 2) := by decide +kernel
theorem d_Ru_exists_47 : decode b_Ru_exists 47 = .ok (.aaload, 1) := by decide +kernel
theorem d_Ru_exists_48 : decode b_Ru_exists 48 = .ok (.invokestatic 223, 3) := by decide +kernel
theorem d_Ru_exists_51 : decode b_Ru_exists 51 = .ok (.istore_n 3, 1) := by decide +kernel
theorem d_Ru_exists_52 : decode b_Ru_exists 52 = .ok (.iinc 4 1, 3) := by decide +kernel
theorem d_Ru_exists_55 : decode b_Ru_exists 55 = .ok (.goto (-27), 3) := by decide +kernel
theorem d_Ru_exists_58 : decode b_Ru_exists 58 = .ok (.iload_n 3, 1) := by decide +kernel
theorem d_Ru_exists_59 : decode b_Ru_exists 59 = .ok (.ifCond .eq 5, 3) := by decide +kernel
theorem d_Ru_exists_62 : decode b_Ru_exists 62 = .ok (.iconst 1, 1) := by decide +kernel
theorem d_Ru_exists_63 : decode b_Ru_exists 63 = .ok (.ireturn, 1) := by decide +kernel
theorem d_Ru_exists_64 : decode b_Ru_exists 64 = .ok (.iinc 2 1, 3) := by decide +kernel
theorem d_Ru_exists_67 : decode b_Ru_exists 67 = .ok (.goto (-57), 3) := by decide +kernel
theorem d_Ru_exists_70 : decode b_Ru_exists 70 = .ok (.iconst 0, 1) := by decide +kernel
theorem d_Ru_exists_71 : decode b_Ru_exists 71 = .ok (.ireturn, 1) := by decide +kernel
theorem d_Ru_holds_0 : decode b_Ru_holds 0 = .ok (.aload_n 0, 1) := by decide +kernel
theorem d_Ru_holds_1 : decode b_Ru_holds 1 = .ok (.getfield 155, 3) := by decide +kernel
theorem d_Ru_holds_4 : decode b_Ru_holds 4 = .ok (.ifnonnull 10, 3) := by decide +kernel
theorem d_Ru_holds_7 : decode b_Ru_holds 7 = .ok (.aload_n 0, 1) := by decide +kernel
theorem d_Ru_holds_8 : decode b_Ru_holds 8 = .ok (.invokestatic 223, 3) := by decide +kernel
theorem d_Ru_holds_11 : decode b_Ru_holds 11 = .ok (.goto 15, 3) := by decide +kernel
theorem d_Ru_holds_14 : decode b_Ru_holds 14 = .ok (.aload_n 0, 1) := by decide +kernel
theorem d_Ru_holds_15 : decode b_Ru_holds 15 = .ok (.invokestatic 226, 3) := by decide +kernel
theorem d_Ru_holds_18 : decode b_Ru_holds 18 = .ok (.ifCond .ne 7, 3) := by decide +kernel
theorem d_Ru_holds_21 : decode b_Ru_holds 21 = .ok (.iconst 1, 1) := by decide +kernel
theorem d_Ru_holds_22 : decode b_Ru_holds 22 = .ok (.goto 4, 3) := by decide +kernel
theorem d_Ru_holds_25 : decode b_Ru_holds 25 = .ok (.iconst 0, 1) := by decide +kernel
theorem d_Ru_holds_26 : decode b_Ru_holds 26 = .ok (.ireturn, 1) := by decide +kernel
theorem d_Ru_isOutOfRange_0 : decode b_Ru_isOutOfRange 0 = .ok (.lload_n 0, 1) := by decide +kernel
theorem d_Ru_isOutOfRange_1 : decode b_Ru_isOutOfRange 1 = .ok (.ldc2_w 254, 3) := by decide +kernel
theorem d_Ru_isOutOfRange_4 : decode b_Ru_isOutOfRange 4 = .ok (.lcmp, 1) := by decide +kernel
theorem d_Ru_isOutOfRange_5 : decode b_Ru_isOutOfRange 5 = .ok (.ifCond .eq 23, 3) := by decide +kernel
theorem d_Ru_isOutOfRange_8 : decode b_Ru_isOutOfRange 8 = .ok (.lload_n 0, 1) := by decide +kernel
theorem d_Ru_isOutOfRange_9 : decode b_Ru_isOutOfRange 9 = .ok (.ldc2_w 268, 3) := by decide +kernel
theorem d_Ru_isOutOfRange_12 : decode b_Ru_isOutOfRange 12 = .ok (.lcmp, 1) := by decide +kernel
theorem d_Ru_isOutOfRange_13 : decode b_Ru_isOutOfRange 13 = .ok (.ifCond .lt 11, 3) := by decide +kernel
theorem d_Ru_isOutOfRange_16 : decode b_Ru_isOutOfRange 16 = .ok (.lload_n 0, 1) := by decide +kernel
theorem d_Ru_isOutOfRange_17 : decode b_Ru_isOutOfRange 17 = .ok (.ldc2_w 270, 3) := by decide +kernel
theorem d_Ru_isOutOfRange_20 : decode b_Ru_isOutOfRange 20 = .ok (.lcmp, 1) := by decide +kernel
theorem d_Ru_isOutOfRange_21 : decode b_Ru_isOutOfRange 21 = .ok (.ifCond .le 7, 3) := by decide +kernel
theorem d_Ru_isOutOfRange_24 : decode b_Ru_isOutOfRange 24 = .ok (.iconst 1, 1) := by decide +kernel
theorem d_Ru_isOutOfRange_25 : decode b_Ru_isOutOfRange 25 = .ok (.goto 4, 3) := by decide +kernel
theorem d_Ru_isOutOfRange_28 : decode b_Ru_isOutOfRange 28 = .ok (.iconst 0, 1) := by decide +kernel
theorem d_Ru_isOutOfRange_29 : decode b_Ru_isOutOfRange 29 = .ok (.ireturn, 1) := by decide +kernel
theorem d_Ru_findGroup_0 : decode b_Ru_findGroup 0 = .ok (.iconst 0, 1) := by decide +kernel
theorem d_Ru_findGroup_1 : decode b_Ru_findGroup 1 = .ok (.istore_n 1, 1) := by decide +kernel
theorem d_Ru_findGroup_2 : decode b_Ru_findGroup 2 = .ok (.iload_n 1, 1) := by decide +kernel
theorem d_Ru_findGroup_3 : decode b_Ru_findGroup 3 = .ok (.aload_n 0, 1) := by decide +kernel
theorem d_Ru_findGroup_4 : decode b_Ru_findGroup 4 = .ok (.getfield 125, 3) := by decide +kernel
theorem d_Ru_findGroup_7 : decode b_Ru_findGroup 7 = .ok (.if_icmp .ge 78, 3) := by decide +kernel
theorem d_Ru_findGroup_10 : decode b_Ru_findGroup 10 = .ok (.iconst 1, 1) := by decide +kernel
theorem d_Ru_findGroup_11 : decode b_Ru_findGroup 11 = .ok (.istore_n 2, 1) := by decide +kernel
theorem d_Ru_findGroup_12 : decode b_Ru_findGroup 12 = .ok (.iconst 0, 1) := by decide +kernel
theorem d_Ru_findGroup_13 : decode b_Ru_findGroup 13 = .ok (.istore_n 3, 1) := by decide +kernel
theorem d_Ru_findGroup_14 : decode b_Ru_findGroup 14 = .ok (.iload_n 3, 1) := by decide +kernel
theorem d_Ru_findGroup_15 : decode b_Ru_findGroup 15 = .ok (.aload_n 0, 1) := by decide +kernel
theorem d_Ru_findGroup_16 : decode b_Ru_findGroup 16 = .ok (.getfield 107, 3) := by decide +kernel
theorem d_Ru_findGroup_19 : decode b_Ru_findGroup 19 = .ok (.getfield 131, 3) := by decide +kernel
theorem d_Ru_findGroup_22 : decode b_Ru_findGroup 22 = .ok (.if_icmp .ge 51, 3) := by decide +kernel
theorem d_Ru_findGroup_25 : decode b_Ru_findGroup 25 = .ok (.iload_n 2, 1) := by decide +kernel
theorem d_Ru_findGroup_26 : decode b_Ru_findGroup 26 = .ok (.ifCond .eq 47, 3) := by decide +kernel
theorem d_Ru_findGroup_29 : decode b_Ru_findGroup 29 = .ok (.aload_n 0, 1) := by decide +kernel
theorem d_Ru_findGroup_30 : decode b_Ru_findGroup 30 = .ok (.getfield 107, 3) := by decide +kernel
theorem d_Ru_findGroup_33 : decode b_Ru_findGroup 33 = .ok (.getfield 272, 3) := by decide +kernel
theorem d_Ru_findGroup_36 : decode b_Ru_findGroup 36 = .ok (.iload_n 3, 1) := by decide +kernel
theorem d_Ru_findGroup_37 : decode b_Ru_findGroup 37 = .ok (.aaload, 1) := by decide +kernel
theorem d_Ru_findGroup_38 : decode b_Ru_findGroup 38 = .ok (.ifnonnull 23, 3) := by decide +kernel
theorem d_Ru_findGroup_41 : decode b_Ru_findGroup 41 = .ok (.aload_n 0, 1) := by decide +kernel
theorem d_Ru_findGroup_42 : decode b_Ru_findGroup 42 = .ok (.getfield 31, 3) := by decide +kernel
theorem d_Ru_findGroup_45 : decode b_Ru_findGroup 45 = .ok (.iload_n 1, 1) := by decide +kernel
theorem d_Ru_findGroup_46 : decode b_Ru_findGroup 46 = .ok (.iconst 4, 1) := by decide +kernel
theorem d_Ru_findGroup_47 : decode b_Ru_findGroup 47 = .ok (.imul, 1) := by decide +kernel
theorem d_Ru_findGroup_48 : decode b_Ru_findGroup 48 = .ok (.iload_n 3, 1) := by decide +kernel
theorem d_Ru_findGroup_49 : decode b_Ru_findGroup 49 = .ok (.iadd, 1) := by decide +kernel
theorem d_Ru_findGroup_50 : decode b_Ru_findGroup 50 = .ok (.laload, 1) := by decide +kernel
theorem d_Ru_findGroup_51 : decode b_Ru_findGroup 51 = .ok (.aload_n 0, 1) := by decide +kernel
theorem d_Ru_findGroup_52 : decode b_Ru_findGroup 52 = .ok (.getfield 28, 3) := by decide +kernel
theorem d_Ru_findGroup_55 : decode b_Ru_findGroup 55 = .ok (.iload_n 3, 1) := by decide +kernel
theorem d_Ru_findGroup_56 : decode b_Ru_findGroup 56 = .ok (.laload, 1) := by decide +kernel
theorem d_Ru_findGroup_57 : decode b_Ru_findGroup 57 = .ok (.lcmp, 1) := by decide +kernel
theorem d_Ru_findGroup_58 : decode b_Ru_findGroup 58 = .ok (.ifCond .ne 7, 3) := by decide +kernel
theorem d_Ru_findGroup_61 : decode b_Ru_findGroup 61 = .ok (.iconst 1, 1) := by decide +kernel
theorem d_Ru_findGroup_62 : decode b_Ru_findGroup 62 = .ok (.goto 4, 3) := by decide +kernel
theorem d_Ru_findGroup_65 : decode b_Ru_findGroup 65 = .ok (.iconst 0, 1) := by decide +kernel
theorem d_Ru_findGroup_66 : decode b_Ru_findGroup 66 = .ok (.istore_n 2, 1) := by decide +kernel
theorem d_Ru_findGroup_67 : decode b_Ru_findGroup 67 = .ok (.iinc 3 1, 3) := by decide +kernel
theorem d_Ru_findGroup_70 : decode b_Ru_findGroup 70 = .ok (.goto (-56), 3) := by decide +kernel
theorem d_Ru_findGroup_73 : decode b_Ru_findGroup 73 = .ok (.iload_n 2, 1) := by decide +kernel
theorem d_Ru_findGroup_74 : decode b_Ru_findGroup 74 = .ok (.ifCond .eq 5, 3) := by decide +kernel
theorem d_Ru_findGroup_77 : decode b_Ru_findGroup 77 = .ok (.iload_n 1, 1) := by decide +kernel
theorem d_Ru_findGroup_78 : decode b_Ru_findGroup 78 = .ok (.ireturn, 1) := by decide +kernel
theorem d_Ru_findGroup_79 : decode b_Ru_findGroup 79 = .ok (.iinc 1 1, 3) := by decide +kernel
theorem d_Ru_findGroup_82 : decode b_Ru_findGroup 82 = .ok (.goto (-80), 3) := by decide +kernel
theorem d_Ru_findGroup_85 : decode b_Ru_findGroup 85 = .ok (.aload_n 0, 1) := by decide +kernel
theorem d_Ru_findGroup_86 : decode b_Ru_findGroup 86 = .ok (.getfield 125, 3) := by decide +kernel
theorem d_Ru_findGroup_89 : decode b_Ru_findGroup 89 = .ok (.aload_n 0, 1) := by decide +kernel
theorem d_Ru_findGroup_90 : decode b_Ru_findGroup 90 = .ok (.getfield 51, 3) := by decide +kernel
theorem d_Ru_findGroup_93 : decode b_Ru_findGroup 93 = .ok (.if_icmp .lt 10, 3) := by decide +kernel
theorem d_Ru_findGroup_96 : decode b_Ru_findGroup 96 = .ok (.aload_n 0, 1) := by decide +kernel
theorem d_Ru_findGroup_97 : decode b_Ru_findGroup 97 = .ok (.iconst 1, 1) := by decide +kernel
theorem d_Ru_findGroup_98 : decode b_Ru_findGroup 98 = .ok (.putfield 119, 3) := by decide +kernel
theorem d_Ru_findGroup_101 : decode b_Ru_findGroup 101 = .ok (.iconst (-1), 1) := by decide +kernel
theorem d_Ru_findGroup_102 : decode b_Ru_findGroup 102 = .ok (.ireturn, 1) := by decide +kernel
theorem d_Ru_findGroup_103 : decode b_Ru_findGroup 103 = .ok (.aload_n 0, 1) := by decide +kernel
theorem d_Ru_findGroup_104 : decode b_Ru_findGroup 104 = .ok (.invokevirtual 134, 3) := by decide +kernel
theorem d_Ru_findGroup_107 : decode b_Ru_findGroup 107 = .ok (.aload_n 0, 1) := by decide +kernel
theorem d_Ru_findGroup_108 : decode b_Ru_findGroup 108 = .ok (.getfield 125, 3) := by decide +kernel
theorem d_Ru_findGroup_111 : decode b_Ru_findGroup 111 = .ok (.iconst 1, 1) := by decide +kernel
theorem d_Ru_findGroup_112 : decode b_Ru_findGroup 112 = .ok (.isub, 1) := by decide +kernel
theorem d_Ru_findGroup_113 : decode b_Ru_findGroup 113 = .ok (.ireturn, 1) := by decide +kernel
theorem d_Ru_addTo_0 : decode b_Ru_addTo 0 = .ok (.lload_n 3, 1) := by decide +kernel
theorem d_Ru_addTo_1 : decode b_Ru_addTo 1 = .ok (.ldc2_w 254, 3) := by decide +kernel
theorem d_Ru_addTo_4 : decode b_Ru_addTo 4 = .ok (.lcmp, 1) := by decide +kernel
theorem d_Ru_addTo_5 : decode b_Ru_addTo 5 = .ok (.ifCond .ne 4, 3) := by decide +kernel
theorem d_Ru_addTo_8 : decode b_Ru_addTo 8 = .ok (.return_, 1) := by decide +kernel
theorem d_Ru_addTo_9 : decode b_Ru_addTo 9 = .ok (.aload_n 2, 1) := by decide +kernel
theorem d_Ru_addTo_10 : decode b_Ru_addTo 10 = .ok (.getstatic 304, 3) := by decide +kernel
theorem d_Ru_addTo_13 : decode b_Ru_addTo 13 = .ok (.if_acmp .ne 16, 3) := by decide +kernel
theorem d_Ru_addTo_16 : decode b_Ru_addTo 16 = .ok (.aload_n 0, 1) := by decide +kernel
theorem d_Ru_addTo_17 : decode b_Ru_addTo 17 = .ok (.getfield 31, 3) := by decide +kernel
theorem d_Ru_addTo_20 : decode b_Ru_addTo 20 = .ok (.iload_n 1, 1) := by decide +kernel
theorem d_Ru_addTo_21 : decode b_Ru_addTo 21 = .ok (.dup2, 1) := by decide +kernel
theorem d_Ru_addTo_22 : decode b_Ru_addTo 22 = .ok (.laload, 1) := by decide +kernel
theorem d_Ru_addTo_23 : decode b_Ru_addTo 23 = .ok (.lload_n 3, 1) := by decide +kernel
theorem d_Ru_addTo_24 : decode b_Ru_addTo 24 = .ok (.ladd, 1) := by decide +kernel
theorem d_Ru_addTo_25 : decode b_Ru_addTo 25 = .ok (.lastore, 1) := by decide +kernel
theorem d_Ru_addTo_26 : decode b_Ru_addTo 26 = .ok (.goto 58, 3) := by decide +kernel
theorem d_Ru_addTo_29 : decode b_Ru_addTo 29 = .ok (.aload_n 0, 1) := by decide +kernel
theorem d_Ru_addTo_30 : decode b_Ru_addTo 30 = .ok (.getfield 34, 3) := by decide +kernel
theorem d_Ru_addTo_33 : decode b_Ru_addTo 33 = .ok (.iload_n 1, 1) := by decide +kernel
theorem d_Ru_addTo_34 : decode b_Ru_addTo 34 = .ok (.iaload, 1) := by decide +kernel
theorem d_Ru_addTo_35 : decode b_Ru_addTo 35 = .ok (.ifCond .ne 13, 3) := by decide +kernel
theorem d_Ru_addTo_38 : decode b_Ru_addTo 38 = .ok (.aload_n 0, 1) := by decide +kernel
theorem d_Ru_addTo_39 : decode b_Ru_addTo 39 = .ok (.getfield 31, 3) := by decide +kernel
theorem d_Ru_addTo_42 : decode b_Ru_addTo 42 = .ok (.iload_n 1, 1) := by decide +kernel
theorem d_Ru_addTo_43 : decode b_Ru_addTo 43 = .ok (.lload_n 3, 1) := by decide +kernel
theorem d_Ru_addTo_44 : decode b_Ru_addTo 44 = .ok (.lastore, 1) := by decide +kernel
theorem d_Ru_addTo_45 : decode b_Ru_addTo 45 = .ok (.goto 39, 3) := by decide +kernel
theorem d_Ru_addTo_48 : decode b_Ru_addTo 48 = .ok (.aload_n 0, 1) := by decide +kernel
theorem d_Ru_addTo_49 : decode b_Ru_addTo 49 = .ok (.getfield 31, 3) := by decide +kernel
theorem d_Ru_addTo_52 : decode b_Ru_addTo 52 = .ok (.iload_n 1, 1) := by decide +kernel
theorem d_Ru_addTo_53 : decode b_Ru_addTo 53 = .ok (.aload_n 2, 1) := by decide +kernel
theorem d_Ru_addTo_54 : decode b_Ru_addTo 54 = .ok (.getstatic 307, 3) := by decide +kernel
theorem d_Ru_addTo_57 : decode b_Ru_addTo 57 = .ok (.if_acmp .ne 16, 3) := by decide +kernel
theorem d_Ru_addTo_60 : decode b_Ru_addTo 60 = .ok (.aload_n 0, 1) := by decide +kernel
theorem d_Ru_addTo_61 : decode b_Ru_addTo 61 = .ok (.getfield 31, 3) := by decide +kernel
theorem d_Ru_addTo_64 : decode b_Ru_addTo 64 = .ok (.iload_n 1, 1) := by decide +kernel
theorem d_Ru_addTo_65 : decode b_Ru_addTo 65 = .ok (.laload, 1) := by decide +kernel
theorem d_Ru_addTo_66 : decode b_Ru_addTo 66 = .ok (.lload_n 3, 1) := by decide +kernel
theorem d_Ru_addTo_67 : decode b_Ru_addTo 67 = .ok (.invokestatic 310, 3) := by decide +kernel
theorem d_Ru_addTo_70 : decode b_Ru_addTo 70 = .ok (.goto 13, 3) := by decide +kernel
theorem d_Ru_addTo_73 : decode b_Ru_addTo 73 = .ok (.aload_n 0, 1) := by decide +kernel
theorem d_Ru_addTo_74 : decode b_Ru_addTo 74 = .ok (.getfield 31, 3) := by decide +kernel
theorem d_Ru_addTo_77 : decode b_Ru_addTo 77 = .ok (.iload_n 1, 1) := by decide +kernel
theorem d_Ru_addTo_78 : decode b_Ru_addTo 78 = .ok (.laload, 1) := by decide +kernel
theorem d_Ru_addTo_79 : decode b_Ru_addTo 79 = .ok (.lload_n 3, 1) := by decide +kernel
theorem d_Ru_addTo_80 : decode b_Ru_addTo 80 = .ok (.invokestatic 316, 3) := by decide +kernel
theorem d_Ru_addTo_83 : decode b_Ru_addTo 83 = .ok (.lastore, 1) := by decide +kernel
theorem d_Ru_addTo_84 : decode b_Ru_addTo 84 = .ok (.aload_n 0, 1) := by decide +kernel
theorem d_Ru_addTo_85 : decode b_Ru_addTo 85 = .ok (.getfield 34, 3) := by decide +kernel
theorem d_Ru_addTo_88 : decode b_Ru_addTo 88 = .ok (.iload_n 1, 1) := by decide +kernel
theorem d_Ru_addTo_89 : decode b_Ru_addTo 89 = .ok (.dup2, 1) := by decide +kernel
theorem d_Ru_addTo_90 : decode b_Ru_addTo 90 = .ok (.iaload, 1) := by decide +kernel
theorem d_Ru_addTo_91 : decode b_Ru_addTo 91 = .ok (.iconst 1, 1) := by decide +kernel
theorem d_Ru_addTo_92 : decode b_Ru_addTo 92 = .ok (.iadd, 1) := by decide +kernel
theorem d_Ru_addTo_93 : decode b_Ru_addTo 93 = .ok (.iastore, 1) := by decide +kernel
theorem d_Ru_addTo_94 : decode b_Ru_addTo 94 = .ok (.return_, 1) := by decide +kernel
theorem d_Ru_gather_0 : decode b_Ru_gather 0 = .ok (.aload_n 0, 1) := by decide +kernel
theorem d_Ru_gather_1 : decode b_Ru_gather 1 = .ok (.invokevirtual 294, 3) := by decide +kernel
theorem d_Ru_gather_4 : decode b_Ru_gather 4 = .ok (.istore_n 1, 1) := by decide +kernel
theorem d_Ru_gather_5 : decode b_Ru_gather 5 = .ok (.iload_n 1, 1) := by decide +kernel
theorem d_Ru_gather_6 : decode b_Ru_gather 6 = .ok (.ifCond .ge 4, 3) := by decide +kernel
theorem d_Ru_gather_9 : decode b_Ru_gather 9 = .ok (.return_, 1) := by decide +kernel
theorem d_Ru_gather_10 : decode b_Ru_gather 10 = .ok (.iconst 0, 1) := by decide +kernel
theorem d_Ru_gather_11 : decode b_Ru_gather 11 = .ok (.istore_n 2, 1) := by decide +kernel
theorem d_Ru_gather_12 : decode b_Ru_gather 12 = .ok (.iload_n 2, 1) := by decide +kernel
theorem d_Ru_gather_13 : decode b_Ru_gather 13 = .ok (.aload_n 0, 1) := by decide +kernel
theorem d_Ru_gather_14 : decode b_Ru_gather 14 = .ok (.getfield 107, 3) := by decide +kernel
theorem d_Ru_gather_17 : decode b_Ru_gather 17 = .ok (.getfield 131, 3) := by decide +kernel
theorem d_Ru_gather_20 : decode b_Ru_gather 20 = .ok (.if_icmp .ge 81, 3) := by decide +kernel
theorem d_Ru_gather_23 : decode b_Ru_gather 23 = .ok (.iload_n 1, 1) := by decide +kernel
theorem d_Ru_gather_24 : decode b_Ru_gather 24 = .ok (.iconst 4, 1) := by decide +kernel
theorem d_Ru_gather_25 : decode b_Ru_gather 25 = .ok (.imul, 1) := by decide +kernel
theorem d_Ru_gather_26 : decode b_Ru_gather 26 = .ok (.iload_n 2, 1) := by decide +kernel
theorem d_Ru_gather_27 : decode b_Ru_gather 27 = .ok (.iadd, 1) := by decide +kernel
theorem d_Ru_gather_28 : decode b_Ru_gather 28 = .ok (.istore_n 3, 1) := by decide +kernel
theorem d_Ru_gather_29 : decode b_Ru_gather 29 = .ok (.aload_n 0, 1) := by decide +kernel
theorem d_Ru_gather_30 : decode b_Ru_gather 30 = .ok (.getfield 107, 3) := by decide +kernel
theorem d_Ru_gather_33 : decode b_Ru_gather 33 = .ok (.getfield 272, 3) := by decide +kernel
theorem d_Ru_gather_36 : decode b_Ru_gather 36 = .ok (.iload_n 2, 1) := by decide +kernel
theorem d_Ru_gather_37 : decode b_Ru_gather 37 = .ok (.aaload, 1) := by decide +kernel
theorem d_Ru_gather_38 : decode b_Ru_gather 38 = .ok (.getstatic 297, 3) := by decide +kernel
theorem d_Ru_gather_41 : decode b_Ru_gather 41 = .ok (.if_acmp .ne 16, 3) := by decide +kernel
theorem d_Ru_gather_44 : decode b_Ru_gather 44 = .ok (.aload_n 0, 1) := by decide +kernel
theorem d_Ru_gather_45 : decode b_Ru_gather 45 = .ok (.getfield 31, 3) := by decide +kernel
theorem d_Ru_gather_48 : decode b_Ru_gather 48 = .ok (.iload_n 3, 1) := by decide +kernel
theorem d_Ru_gather_49 : decode b_Ru_gather 49 = .ok (.dup2, 1) := by decide +kernel
theorem d_Ru_gather_50 : decode b_Ru_gather 50 = .ok (.laload, 1) := by decide +kernel
theorem d_Ru_gather_51 : decode b_Ru_gather 51 = .ok (.lconst 1, 1) := by decide +kernel
theorem d_Ru_gather_52 : decode b_Ru_gather 52 = .ok (.ladd, 1) := by decide +kernel
theorem d_Ru_gather_53 : decode b_Ru_gather 53 = .ok (.lastore, 1) := by decide +kernel
theorem d_Ru_gather_54 : decode b_Ru_gather 54 = .ok (.goto 41, 3) := by decide +kernel
theorem d_Ru_gather_57 : decode b_Ru_gather 57 = .ok (.aload_n 0, 1) := by decide +kernel
theorem d_Ru_gather_58 : decode b_Ru_gather 58 = .ok (.getfield 107, 3) := by decide +kernel
theorem d_Ru_gather_61 : decode b_Ru_gather 61 = .ok (.getfield 272, 3) := by decide +kernel
theorem d_Ru_gather_64 : decode b_Ru_gather 64 = .ok (.iload_n 2, 1) := by decide +kernel
theorem d_Ru_gather_65 : decode b_Ru_gather 65 = .ok (.aaload, 1) := by decide +kernel
theorem d_Ru_gather_66 : decode b_Ru_gather 66 = .ok (.ifnull 29, 3) := by decide +kernel
theorem d_Ru_gather_69 : decode b_Ru_gather 69 = .ok (.aload_n 0, 1) := by decide +kernel
theorem d_Ru_gather_70 : decode b_Ru_gather 70 = .ok (.iload_n 3, 1) := by decide +kernel
theorem d_Ru_gather_71 : decode b_Ru_gather 71 = .ok (.aload_n 0, 1) := by decide +kernel
theorem d_Ru_gather_72 : decode b_Ru_gather 72 = .ok (.getfield 107, 3) := by decide +kernel
theorem d_Ru_gather_75 : decode b_Ru_gather 75 = .ok (.getfield 272, 3) := by decide +kernel
theorem d_Ru_gather_78 : decode b_Ru_gather 78 = .ok (.iload_n 2, 1) := by decide +kernel
theorem d_Ru_gather_79 : decode b_Ru_gather 79 = .ok (.aaload, 1) := by decide +kernel
theorem d_Ru_gather_80 : decode b_Ru_gather 80 = .ok (.aload_n 0, 1) := by decide +kernel
theorem d_Ru_gather_81 : decode b_Ru_gather 81 = .ok (.getfield 107, 3) := by decide +kernel
theorem d_Ru_gather_84 : decode b_Ru_gather 84 = .ok (.getfield 276, 3) := by decide +kernel
theorem d_Ru_gather_87 : decode b_Ru_gather 87 = .ok (.iload_n 2, 1) := by decide +kernel
theorem d_Ru_gather_88 : decode b_Ru_gather 88 = .ok (.aaload, 1) := by decide +kernel
theorem d_Ru_gather_89 : decode b_Ru_gather 89 = .ok (.invokevirtual 239, 3) := by decide +kernel
theorem d_Ru_gather_92 : decode b_Ru_gather 92 = .ok (.invokevirtual 300, 3) := by decide +kernel
theorem d_Ru_gather_95 : decode b_Ru_gather 95 = .ok (.iinc 2 1, 3) := by decide +kernel
theorem d_Ru_gather_98 : decode b_Ru_gather 98 = .ok (.goto (-86), 3) := by decide +kernel
theorem d_Ru_gather_101 : decode b_Ru_gather 101 = .ok (.return_, 1) := by decide +kernel
theorem d_Ru_keepKeys_0 : decode b_Ru_keepKeys 0 = .ok (.iconst 0, 1) := by decide +kernel
theorem d_Ru_keepKeys_1 : decode b_Ru_keepKeys 1 = .ok (.istore_n 1, 1) := by decide +kernel
theorem d_Ru_keepKeys_2 : decode b_Ru_keepKeys 2 = .ok (.iload_n 1, 1) := by decide +kernel
theorem d_Ru_keepKeys_3 : decode b_Ru_keepKeys 3 = .ok (.aload_n 0, 1) := by decide +kernel
theorem d_Ru_keepKeys_4 : decode b_Ru_keepKeys 4 = .ok (.getfield 40, 3) := by decide +kernel
theorem d_Ru_keepKeys_7 : decode b_Ru_keepKeys 7 = .ok (.getfield 351, 3) := by decide +kernel
theorem d_Ru_keepKeys_10 : decode b_Ru_keepKeys 10 = .ok (.if_icmp .ge 68, 3) := by decide +kernel
theorem d_Ru_keepKeys_13 : decode b_Ru_keepKeys 13 = .ok (.aload_n 0, 1) := by decide +kernel
theorem d_Ru_keepKeys_14 : decode b_Ru_keepKeys 14 = .ok (.getfield 40, 3) := by decide +kernel
theorem d_Ru_keepKeys_17 : decode b_Ru_keepKeys 17 = .ok (.getfield 354, 3) := by decide +kernel
theorem d_Ru_keepKeys_20 : decode b_Ru_keepKeys 20 = .ok (.iload_n 1, 1) := by decide +kernel
theorem d_Ru_keepKeys_21 : decode b_Ru_keepKeys 21 = .ok (.aaload, 1) := by decide +kernel
theorem d_Ru_keepKeys_22 : decode b_Ru_keepKeys 22 = .ok (.astore_n 2, 1) := by decide +kernel
theorem d_Ru_keepKeys_23 : decode b_Ru_keepKeys 23 = .ok (.aload_n 2, 1) := by decide +kernel
theorem d_Ru_keepKeys_24 : decode b_Ru_keepKeys 24 = .ok (.getfield 357, 3) := by decide +kernel
theorem d_Ru_keepKeys_27 : decode b_Ru_keepKeys 27 = .ok (.iconst 4, 1) := by decide +kernel
theorem d_Ru_keepKeys_28 : decode b_Ru_keepKeys 28 = .ok (.if_icmp .ne 7, 3) := by decide +kernel
theorem d_Ru_keepKeys_31 : decode b_Ru_keepKeys 31 = .ok (.iconst 1, 1) := by decide +kernel
theorem d_Ru_keepKeys_32 : decode b_Ru_keepKeys 32 = .ok (.goto 4, 3) := by decide +kernel
theorem d_Ru_keepKeys_35 : decode b_Ru_keepKeys 35 = .ok (.iconst 0, 1) := by decide +kernel
theorem d_Ru_keepKeys_36 : decode b_Ru_keepKeys 36 = .ok (.istore_n 3, 1) := by decide +kernel
theorem d_Ru_keepKeys_37 : decode b_Ru_keepKeys 37 = .ok (.aload_n 0, 1) := by decide +kernel
theorem d_Ru_keepKeys_38 : decode b_Ru_keepKeys 38 = .ok (.getfield 24, 3) := by decide +kernel
theorem d_Ru_keepKeys_41 : decode b_Ru_keepKeys 41 = .ok (.aload_n 0, 1) := by decide +kernel
theorem d_Ru_keepKeys_42 : decode b_Ru_keepKeys 42 = .ok (.getfield 115, 3) := by decide +kernel
theorem d_Ru_keepKeys_45 : decode b_Ru_keepKeys 45 = .ok (.getfield 186, 3) := by decide +kernel
theorem d_Ru_keepKeys_48 : decode b_Ru_keepKeys 48 = .ok (.iconst 2, 1) := by decide +kernel
theorem d_Ru_keepKeys_49 : decode b_Ru_keepKeys 49 = .ok (.imul, 1) := by decide +kernel
theorem d_Ru_keepKeys_50 : decode b_Ru_keepKeys 50 = .ok (.iload_n 1, 1) := by decide +kernel
theorem d_Ru_keepKeys_51 : decode b_Ru_keepKeys 51 = .ok (.iadd, 1) := by decide +kernel
theorem d_Ru_keepKeys_52 : decode b_Ru_keepKeys 52 = .ok (.iload_n 3, 1) := by decide +kernel
theorem d_Ru_keepKeys_53 : decode b_Ru_keepKeys 53 = .ok (.ifCond .eq 14, 3) := by decide +kernel
theorem d_Ru_keepKeys_56 : decode b_Ru_keepKeys 56 = .ok (.aload_n 2, 1) := by decide +kernel
theorem d_Ru_keepKeys_57 : decode b_Ru_keepKeys 57 = .ok (.getfield 360, 3) := by decide +kernel
theorem d_Ru_keepKeys_60 : decode b_Ru_keepKeys 60 = .ok (.getfield 217, 3) := by decide +kernel
theorem d_Ru_keepKeys_63 : decode b_Ru_keepKeys 63 = .ok (.i2l, 1) := by decide +kernel
theorem d_Ru_keepKeys_64 : decode b_Ru_keepKeys 64 = .ok (.goto 7, 3) := by decide +kernel
theorem d_Ru_keepKeys_67 : decode b_Ru_keepKeys 67 = .ok (.aload_n 2, 1) := by decide +kernel
theorem d_Ru_keepKeys_68 : decode b_Ru_keepKeys 68 = .ok (.invokevirtual 239, 3) := by decide +kernel
theorem d_Ru_keepKeys_71 : decode b_Ru_keepKeys 71 = .ok (.lastore, 1) := by decide +kernel
theorem d_Ru_keepKeys_72 : decode b_Ru_keepKeys 72 = .ok (.iinc 1 1, 3) := by decide +kernel
theorem d_Ru_keepKeys_75 : decode b_Ru_keepKeys 75 = .ok (.goto (-73), 3) := by decide +kernel
theorem d_Ru_keepKeys_78 : decode b_Ru_keepKeys 78 = .ok (.return_, 1) := by decide +kernel
theorem d_Ru_parentRow_0 : decode b_Ru_parentRow 0 = .ok (.iconst 0, 1) := by decide +kernel
theorem d_Ru_parentRow_1 : decode b_Ru_parentRow 1 = .ok (.istore_n 1, 1) := by decide +kernel
theorem d_Ru_parentRow_2 : decode b_Ru_parentRow 2 = .ok (.iload_n 1, 1) := by decide +kernel
theorem d_Ru_parentRow_3 : decode b_Ru_parentRow 3 = .ok (.aload_n 0, 1) := by decide +kernel
theorem d_Ru_parentRow_4 : decode b_Ru_parentRow 4 = .ok (.getfield 107, 3) := by decide +kernel
theorem d_Ru_parentRow_7 : decode b_Ru_parentRow 7 = .ok (.getfield 137, 3) := by decide +kernel
theorem d_Ru_parentRow_10 : decode b_Ru_parentRow 10 = .ok (.if_icmp .ge 44, 3) := by decide +kernel
theorem d_Ru_parentRow_13 : decode b_Ru_parentRow 13 = .ok (.aload_n 0, 1) := by decide +kernel
theorem d_Ru_parentRow_14 : decode b_Ru_parentRow 14 = .ok (.getfield 107, 3) := by decide +kernel
theorem d_Ru_parentRow_17 : decode b_Ru_parentRow 17 = .ok (.getfield 140, 3) := by decide +kernel
theorem d_Ru_parentRow_20 : decode b_Ru_parentRow 20 = .ok (.iload_n 1, 1) := by decide +kernel
theorem d_Ru_parentRow_21 : decode b_Ru_parentRow 21 = .ok (.aaload, 1) := by decide +kernel
theorem d_Ru_parentRow_22 : decode b_Ru_parentRow 22 = .ok (.getfield 178, 3) := by decide +kernel
theorem d_Ru_parentRow_25 : decode b_Ru_parentRow 25 = .ok (.aload_n 0, 1) := by decide +kernel
theorem d_Ru_parentRow_26 : decode b_Ru_parentRow 26 = .ok (.getfield 107, 3) := by decide +kernel
theorem d_Ru_parentRow_29 : decode b_Ru_parentRow 29 = .ok (.getfield 348, 3) := by decide +kernel
theorem d_Ru_parentRow_32 : decode b_Ru_parentRow 32 = .ok (.if_icmp .ne 16, 3) := by decide +kernel
theorem d_Ru_parentRow_35 : decode b_Ru_parentRow 35 = .ok (.aload_n 0, 1) := by decide +kernel
theorem d_Ru_parentRow_36 : decode b_Ru_parentRow 36 = .ok (.getfield 107, 3) := by decide +kernel
theorem d_Ru_parentRow_39 : decode b_Ru_parentRow 39 = .ok (.getfield 140, 3) := by decide +kernel
theorem d_Ru_parentRow_42 : decode b_Ru_parentRow 42 = .ok (.iload_n 1, 1) := by decide +kernel
theorem d_Ru_parentRow_43 : decode b_Ru_parentRow 43 = .ok (.aaload, 1) := by decide +kernel
theorem d_Ru_parentRow_44 : decode b_Ru_parentRow 44 = .ok (.getfield 217, 3) := by decide +kernel
theorem d_Ru_parentRow_47 : decode b_Ru_parentRow 47 = .ok (.ireturn, 1) := by decide +kernel
theorem d_Ru_parentRow_48 : decode b_Ru_parentRow 48 = .ok (.iinc 1 1, 3) := by decide +kernel
theorem d_Ru_parentRow_51 : decode b_Ru_parentRow 51 = .ok (.goto (-49), 3) := by decide +kernel
theorem d_Ru_parentRow_54 : decode b_Ru_parentRow 54 = .ok (.iconst (-1), 1) := by decide +kernel
theorem d_Ru_parentRow_55 : decode b_Ru_parentRow 55 = .ok (.ireturn, 1) := by decide +kernel
theorem d_Ru_come_0 : decode b_Ru_come 0 = .ok (.aload_n 0, 1) := by decide +kernel
theorem d_Ru_come_1 : decode b_Ru_come 1 = .ok (.getfield 115, 3) := by decide +kernel
theorem d_Ru_come_4 : decode b_Ru_come 4 = .ok (.getfield 186, 3) := by decide +kernel
theorem d_Ru_come_7 : decode b_Ru_come 7 = .ok (.iconst 4, 1) := by decide +kernel
theorem d_Ru_come_8 : decode b_Ru_come 8 = .ok (.imul, 1) := by decide +kernel
theorem d_Ru_come_9 : decode b_Ru_come 9 = .ok (.istore_n 1, 1) := by decide +kernel
theorem d_Ru_come_10 : decode b_Ru_come 10 = .ok (.iconst 0, 1) := by decide +kernel
theorem d_Ru_come_11 : decode b_Ru_come 11 = .ok (.istore_n 2, 1) := by decide +kernel
theorem d_Ru_come_12 : decode b_Ru_come 12 = .ok (.iload_n 2, 1) := by decide +kernel
theorem d_Ru_come_13 : decode b_Ru_come 13 = .ok (.aload_n 0, 1) := by decide +kernel
theorem d_Ru_come_14 : decode b_Ru_come 14 = .ok (.getfield 107, 3) := by decide +kernel
theorem d_Ru_come_17 : decode b_Ru_come 17 = .ok (.getfield 131, 3) := by decide +kernel
theorem d_Ru_come_20 : decode b_Ru_come 20 = .ok (.if_icmp .ge 26, 3) := by decide +kernel
theorem d_Ru_come_23 : decode b_Ru_come 23 = .ok (.aload_n 0, 1) := by decide +kernel
theorem d_Ru_come_24 : decode b_Ru_come 24 = .ok (.getfield 115, 3) := by decide +kernel
theorem d_Ru_come_27 : decode b_Ru_come 27 = .ok (.getfield 323, 3) := by decide +kernel
theorem d_Ru_come_30 : decode b_Ru_come 30 = .ok (.iload_n 1, 1) := by decide +kernel
theorem d_Ru_come_31 : decode b_Ru_come 31 = .ok (.iload_n 2, 1) := by decide +kernel
theorem d_Ru_come_32 : decode b_Ru_come 32 = .ok (.iadd, 1) := by decide +kernel
theorem d_Ru_come_33 : decode b_Ru_come 33 = .ok (.aload_n 0, 1) := by decide +kernel
theorem d_Ru_come_34 : decode b_Ru_come 34 = .ok (.getfield 28, 3) := by decide +kernel
theorem d_Ru_come_37 : decode b_Ru_come 37 = .ok (.iload_n 2, 1) := by decide +kernel
theorem d_Ru_come_38 : decode b_Ru_come 38 = .ok (.laload, 1) := by decide +kernel
theorem d_Ru_come_39 : decode b_Ru_come 39 = .ok (.lastore, 1) := by decide +kernel
theorem d_Ru_come_40 : decode b_Ru_come 40 = .ok (.iinc 2 1, 3) := by decide +kernel
theorem d_Ru_come_43 : decode b_Ru_come 43 = .ok (.goto (-31), 3) := by decide +kernel
theorem d_Ru_come_46 : decode b_Ru_come 46 = .ok (.aload_n 0, 1) := by decide +kernel
theorem d_Ru_come_47 : decode b_Ru_come 47 = .ok (.getfield 111, 3) := by decide +kernel
theorem d_Ru_come_50 : decode b_Ru_come 50 = .ok (.ifnonnull 10, 3) := by decide +kernel
theorem d_Ru_come_53 : decode b_Ru_come 53 = .ok (.aload_n 0, 1) := by decide +kernel
theorem d_Ru_come_54 : decode b_Ru_come 54 = .ok (.invokevirtual 326, 3) := by decide +kernel
theorem d_Ru_come_57 : decode b_Ru_come 57 = .ok (.goto 66, 3) := by decide +kernel
theorem d_Ru_come_60 : decode b_Ru_come 60 = .ok (.aload_n 0, 1) := by decide +kernel
theorem d_Ru_come_61 : decode b_Ru_come 61 = .ok (.getfield 111, 3) := by decide +kernel
theorem d_Ru_come_64 : decode b_Ru_come 64 = .ok (.getfield 329, 3) := by decide +kernel
theorem d_Ru_come_67 : decode b_Ru_come 67 = .ok (.ifCond .ne 13, 3) := by decide +kernel
theorem d_Ru_come_70 : decode b_Ru_come 70 = .ok (.aload_n 0, 1) := by decide +kernel
theorem d_Ru_come_71 : decode b_Ru_come 71 = .ok (.getfield 111, 3) := by decide +kernel
theorem d_Ru_come_74 : decode b_Ru_come 74 = .ok (.getfield 201, 3) := by decide +kernel
theorem d_Ru_come_77 : decode b_Ru_come 77 = .ok (.ifCond .eq 21, 3) := by decide +kernel
theorem d_Ru_come_80 : decode b_Ru_come 80 = .ok (.aload_n 0, 1) := by decide +kernel
theorem d_Ru_come_81 : decode b_Ru_come 81 = .ok (.getfield 115, 3) := by decide +kernel
theorem d_Ru_come_84 : decode b_Ru_come 84 = .ok (.aload_n 0, 1) := by decide +kernel
theorem d_Ru_come_85 : decode b_Ru_come 85 = .ok (.invokevirtual 332, 3) := by decide +kernel
theorem d_Ru_come_88 : decode b_Ru_come 88 = .ok (.aload_n 0, 1) := by decide +kernel
theorem d_Ru_come_89 : decode b_Ru_come 89 = .ok (.getfield 111, 3) := by decide +kernel
theorem d_Ru_come_92 : decode b_Ru_come 92 = .ok (.getfield 335, 3) := by decide +kernel
theorem d_Ru_come_95 : decode b_Ru_come 95 = .ok (.invokevirtual 338, 3) := by decide +kernel
theorem d_Ru_come_98 : decode b_Ru_come 98 = .ok (.aload_n 0, 1) := by decide +kernel
theorem d_Ru_come_99 : decode b_Ru_come 99 = .ok (.getfield 111, 3) := by decide +kernel
theorem d_Ru_come_102 : decode b_Ru_come 102 = .ok (.getfield 341, 3) := by decide +kernel
theorem d_Ru_come_105 : decode b_Ru_come 105 = .ok (.ifCond .eq 18, 3) := by decide +kernel
theorem d_Ru_come_108 : decode b_Ru_come 108 = .ok (.aload_n 0, 1) := by decide +kernel
theorem d_Ru_come_109 : decode b_Ru_come 109 = .ok (.getfield 115, 3) := by decide +kernel
theorem d_Ru_come_112 : decode b_Ru_come 112 = .ok (.aload_n 0, 1) := by decide +kernel
theorem d_Ru_come_113 : decode b_Ru_come 113 = .ok (.getfield 111, 3) := by decide +kernel
theorem d_Ru_come_116 : decode b_Ru_come 116 = .ok (.invokevirtual 344, 3) := by decide +kernel
theorem d_Ru_come_119 : decode b_Ru_come 119 = .ok (.ifCond .eq 4, 3) := by decide +kernel
theorem d_Ru_come_122 : decode b_Ru_come 122 = .ok (.return_, 1) := by decide +kernel
theorem d_Ru_come_123 : decode b_Ru_come 123 = .ok (.aload_n 0, 1) := by decide +kernel
theorem d_Ru_come_124 : decode b_Ru_come 124 = .ok (.getfield 54, 3) := by decide +kernel
theorem d_Ru_come_127 : decode b_Ru_come 127 = .ok (.aload_n 0, 1) := by decide +kernel
theorem d_Ru_come_128 : decode b_Ru_come 128 = .ok (.getfield 51, 3) := by decide +kernel
theorem d_Ru_come_131 : decode b_Ru_come 131 = .ok (.if_icmp .lt 9, 3) := by decide +kernel
theorem d_Ru_come_134 : decode b_Ru_come 134 = .ok (.aload_n 0, 1) := by decide +kernel
theorem d_Ru_come_135 : decode b_Ru_come 135 = .ok (.iconst 1, 1) := by decide +kernel
theorem d_Ru_come_136 : decode b_Ru_come 136 = .ok (.putfield 122, 3) := by decide +kernel
theorem d_Ru_come_139 : decode b_Ru_come 139 = .ok (.return_, 1) := by decide +kernel
theorem d_Ru_come_140 : decode b_Ru_come 140 = .ok (.aload_n 0, 1) := by decide +kernel
theorem d_Ru_come_141 : decode b_Ru_come 141 = .ok (.getfield 115, 3) := by decide +kernel
theorem d_Ru_come_144 : decode b_Ru_come 144 = .ok (.dup, 1) := by decide +kernel
theorem d_Ru_come_145 : decode b_Ru_come 145 = .ok (.getfield 186, 3) := by decide +kernel
theorem d_Ru_come_148 : decode b_Ru_come 148 = .ok (.iconst 1, 1) := by decide +kernel
theorem d_Ru_come_149 : decode b_Ru_come 149 = .ok (.iadd, 1) := by decide +kernel
theorem d_Ru_come_150 : decode b_Ru_come 150 = .ok (.putfield 186, 3) := by decide +kernel
theorem d_Ru_come_153 : decode b_Ru_come 153 = .ok (.aload_n 0, 1) := by decide +kernel
theorem d_Ru_come_154 : decode b_Ru_come 154 = .ok (.dup, 1) := by decide +kernel
theorem d_Ru_come_155 : decode b_Ru_come 155 = .ok (.getfield 54, 3) := by decide +kernel
theorem d_Ru_come_158 : decode b_Ru_come 158 = .ok (.iconst 1, 1) := by decide +kernel
theorem d_Ru_come_159 : decode b_Ru_come 159 = .ok (.iadd, 1) := by decide +kernel
theorem d_Ru_come_160 : decode b_Ru_come 160 = .ok (.putfield 54, 3) := by decide +kernel
theorem d_Ru_come_163 : decode b_Ru_come 163 = .ok (.return_, 1) := by decide +kernel
theorem d_Ru_takeCombination_0 : decode b_Ru_takeCombination 0 = .ok (.iconst 0, 1) := by decide +kernel
