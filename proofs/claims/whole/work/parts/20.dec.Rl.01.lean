theorem d_Rl_init_0 : decode b_Rl_init 0 = .ok (.aload_n 0, 1) := by decide +kernel
theorem d_Rl_init_1 : decode b_Rl_init 1 = .ok (.invokespecial 3, 3) := by decide +kernel
theorem d_Rl_init_4 : decode b_Rl_init 4 = .ok (.aload_n 0, 1) := by decide +kernel
theorem d_Rl_init_5 : decode b_Rl_init 5 = .ok (.iload_n 2, 1) := by decide +kernel
theorem d_Rl_init_6 : decode b_Rl_init 6 = .ok (.putfield 9, 3) := by decide +kernel
theorem d_Rl_init_9 : decode b_Rl_init 9 = .ok (.aload_n 0, 1) := by decide +kernel
theorem d_Rl_init_10 : decode b_Rl_init 10 = .ok (.iload_n 1, 1) := by decide +kernel
theorem d_Rl_init_11 : decode b_Rl_init 11 = .ok (.iconst 1, 1) := by decide +kernel
theorem d_Rl_init_12 : decode b_Rl_init 12 = .ok (.iadd, 1) := by decide +kernel
theorem d_Rl_init_13 : decode b_Rl_init 13 = .ok (.iconst 4, 1) := by decide +kernel
theorem d_Rl_init_14 : decode b_Rl_init 14 = .ok (.imul, 1) := by decide +kernel
theorem d_Rl_init_15 : decode b_Rl_init 15 = .ok (.newarray .long, 2) := by decide +kernel
theorem d_Rl_init_17 : decode b_Rl_init 17 = .ok (.putfield 15, 3) := by decide +kernel
theorem d_Rl_init_20 : decode b_Rl_init 20 = .ok (.aload_n 0, 1) := by decide +kernel
theorem d_Rl_init_21 : decode b_Rl_init 21 = .ok (.iload_n 1, 1) := by decide +kernel
theorem d_Rl_init_22 : decode b_Rl_init 22 = .ok (.iconst 1, 1) := by decide +kernel
theorem d_Rl_init_23 : decode b_Rl_init 23 = .ok (.iadd, 1) := by decide +kernel
theorem d_Rl_init_24 : decode b_Rl_init 24 = .ok (.newarray .int, 2) := by decide +kernel
theorem d_Rl_init_26 : decode b_Rl_init 26 = .ok (.putfield 19, 3) := by decide +kernel
theorem d_Rl_init_29 : decode b_Rl_init 29 = .ok (.aload_n 0, 1) := by decide +kernel
theorem d_Rl_init_30 : decode b_Rl_init 30 = .ok (.iload_n 1, 1) := by decide +kernel
theorem d_Rl_init_31 : decode b_Rl_init 31 = .ok (.iconst 1, 1) := by decide +kernel
theorem d_Rl_init_32 : decode b_Rl_init 32 = .ok (.iadd, 1) := by decide +kernel
theorem d_Rl_init_33 : decode b_Rl_init 33 = .ok (.newarray .int, 2) := by decide +kernel
theorem d_Rl_init_35 : decode b_Rl_init 35 = .ok (.putfield 23, 3) := by decide +kernel
theorem d_Rl_init_38 : decode b_Rl_init 38 = .ok (.return_, 1) := by decide +kernel
theorem d_Rl_empty_0 : decode b_Rl_empty 0 = .ok (.aload_n 0, 1) := by decide +kernel
theorem d_Rl_empty_1 : decode b_Rl_empty 1 = .ok (.iconst 0, 1) := by decide +kernel
theorem d_Rl_empty_2 : decode b_Rl_empty 2 = .ok (.putfield 26, 3) := by decide +kernel
theorem d_Rl_empty_5 : decode b_Rl_empty 5 = .ok (.aload_n 0, 1) := by decide +kernel
theorem d_Rl_empty_6 : decode b_Rl_empty 6 = .ok (.iconst 0, 1) := by decide +kernel
theorem d_Rl_empty_7 : decode b_Rl_empty 7 = .ok (.putfield 29, 3) := by decide +kernel
theorem d_Rl_empty_10 : decode b_Rl_empty 10 = .ok (.aload_n 0, 1) := by decide +kernel
theorem d_Rl_empty_11 : decode b_Rl_empty 11 = .ok (.iconst 0, 1) := by decide +kernel
theorem d_Rl_empty_12 : decode b_Rl_empty 12 = .ok (.putfield 32, 3) := by decide +kernel
theorem d_Rl_empty_15 : decode b_Rl_empty 15 = .ok (.return_, 1) := by decide +kernel
theorem d_Rl_beginRound_0 : decode b_Rl_beginRound 0 = .ok (.aload_n 0, 1) := by decide +kernel
theorem d_Rl_beginRound_1 : decode b_Rl_beginRound 1 = .ok (.aload_n 0, 1) := by decide +kernel
theorem d_Rl_beginRound_2 : decode b_Rl_beginRound 2 = .ok (.getfield 29, 3) := by decide +kernel
theorem d_Rl_beginRound_5 : decode b_Rl_beginRound 5 = .ok (.putfield 32, 3) := by decide +kernel
theorem d_Rl_beginRound_8 : decode b_Rl_beginRound 8 = .ok (.aload_n 0, 1) := by decide +kernel
theorem d_Rl_beginRound_9 : decode b_Rl_beginRound 9 = .ok (.aload_n 0, 1) := by decide +kernel
theorem d_Rl_beginRound_10 : decode b_Rl_beginRound 10 = .ok (.getfield 26, 3) := by decide +kernel
theorem d_Rl_beginRound_13 : decode b_Rl_beginRound 13 = .ok (.putfield 29, 3) := by decide +kernel
theorem d_Rl_beginRound_16 : decode b_Rl_beginRound 16 = .ok (.return_, 1) := by decide +kernel
theorem d_Rl_grow_0 : decode b_Rl_grow 0 = .ok (.aload_n 0, 1) := by decide +kernel
theorem d_Rl_grow_1 : decode b_Rl_grow 1 = .ok (.getfield 19, 3) := by decide +kernel
theorem d_Rl_grow_4 : decode b_Rl_grow 4 = .ok (.aload_n 0, 1) := by decide +kernel
theorem d_Rl_grow_5 : decode b_Rl_grow 5 = .ok (.getfield 26, 3) := by decide +kernel
theorem d_Rl_grow_8 : decode b_Rl_grow 8 = .ok (.iload_n 1, 1) := by decide +kernel
theorem d_Rl_grow_9 : decode b_Rl_grow 9 = .ok (.iastore, 1) := by decide +kernel
theorem d_Rl_grow_10 : decode b_Rl_grow 10 = .ok (.aload_n 0, 1) := by decide +kernel
theorem d_Rl_grow_11 : decode b_Rl_grow 11 = .ok (.getfield 23, 3) := by decide +kernel
theorem d_Rl_grow_14 : decode b_Rl_grow 14 = .ok (.aload_n 0, 1) := by decide +kernel
theorem d_Rl_grow_15 : decode b_Rl_grow 15 = .ok (.getfield 26, 3) := by decide +kernel
theorem d_Rl_grow_18 : decode b_Rl_grow 18 = .ok (.iload_n 1, 1) := by decide +kernel
theorem d_Rl_grow_19 : decode b_Rl_grow 19 = .ok (.ifCond .ge 7, 3) := by decide +kernel
theorem d_Rl_grow_22 : decode b_Rl_grow 22 = .ok (.iconst 1, 1) := by decide +kernel
theorem d_Rl_grow_23 : decode b_Rl_grow 23 = .ok (.goto 11, 3) := by decide +kernel
theorem d_Rl_grow_26 : decode b_Rl_grow 26 = .ok (.aload_n 0, 1) := by decide +kernel
theorem d_Rl_grow_27 : decode b_Rl_grow 27 = .ok (.getfield 23, 3) := by decide +kernel
theorem d_Rl_grow_30 : decode b_Rl_grow 30 = .ok (.iload_n 1, 1) := by decide +kernel
theorem d_Rl_grow_31 : decode b_Rl_grow 31 = .ok (.iaload, 1) := by decide +kernel
theorem d_Rl_grow_32 : decode b_Rl_grow 32 = .ok (.iconst 1, 1) := by decide +kernel
theorem d_Rl_grow_33 : decode b_Rl_grow 33 = .ok (.iadd, 1) := by decide +kernel
theorem d_Rl_grow_34 : decode b_Rl_grow 34 = .ok (.iastore, 1) := by decide +kernel
theorem d_Rl_grow_35 : decode b_Rl_grow 35 = .ok (.lconst 0, 1) := by decide +kernel
theorem d_Rl_grow_36 : decode b_Rl_grow 36 = .ok (.lstore_n 3, 1) := by decide +kernel
theorem d_Rl_grow_37 : decode b_Rl_grow 37 = .ok (.iload_n 2, 1) := by decide +kernel
theorem d_Rl_grow_38 : decode b_Rl_grow 38 = .ok (.ifCond .lt 86, 3) := by decide +kernel
theorem d_Rl_grow_41 : decode b_Rl_grow 41 = .ok (.aload_n 0, 1) := by decide +kernel
theorem d_Rl_grow_42 : decode b_Rl_grow 42 = .ok (.getfield 15, 3) := by decide +kernel
theorem d_Rl_grow_45 : decode b_Rl_grow 45 = .ok (.aload_n 0, 1) := by decide +kernel
theorem d_Rl_grow_46 : decode b_Rl_grow 46 = .ok (.getfield 26, 3) := by decide +kernel
theorem d_Rl_grow_49 : decode b_Rl_grow 49 = .ok (.iconst 4, 1) := by decide +kernel
theorem d_Rl_grow_50 : decode b_Rl_grow 50 = .ok (.imul, 1) := by decide +kernel
theorem d_Rl_grow_51 : decode b_Rl_grow 51 = .ok (.iload_n 2, 1) := by decide +kernel
theorem d_Rl_grow_52 : decode b_Rl_grow 52 = .ok (.iadd, 1) := by decide +kernel
theorem d_Rl_grow_53 : decode b_Rl_grow 53 = .ok (.laload, 1) := by decide +kernel
theorem d_Rl_grow_54 : decode b_Rl_grow 54 = .ok (.lstore 5, 2) := by decide +kernel
theorem d_Rl_grow_56 : decode b_Rl_grow 56 = .ok (.iload_n 1, 1) := by decide +kernel
theorem d_Rl_grow_57 : decode b_Rl_grow 57 = .ok (.istore 7, 2) := by decide +kernel
theorem d_Rl_grow_59 : decode b_Rl_grow 59 = .ok (.iconst 1, 1) := by decide +kernel
theorem d_Rl_grow_60 : decode b_Rl_grow 60 = .ok (.istore 8, 2) := by decide +kernel
theorem d_Rl_grow_62 : decode b_Rl_grow 62 = .ok (.iload 8, 2) := by decide +kernel
theorem d_Rl_grow_64 : decode b_Rl_grow 64 = .ok (.aload_n 0, 1) := by decide +kernel
theorem d_Rl_grow_65 : decode b_Rl_grow 65 = .ok (.getfield 23, 3) := by decide +kernel
theorem d_Rl_grow_68 : decode b_Rl_grow 68 = .ok (.aload_n 0, 1) := by decide +kernel
theorem d_Rl_grow_69 : decode b_Rl_grow 69 = .ok (.getfield 26, 3) := by decide +kernel
theorem d_Rl_grow_72 : decode b_Rl_grow 72 = .ok (.iaload, 1) := by decide +kernel
theorem d_Rl_grow_73 : decode b_Rl_grow 73 = .ok (.if_icmp .ge 51, 3) := by decide +kernel
theorem d_Rl_grow_76 : decode b_Rl_grow 76 = .ok (.iload 7, 2) := by decide +kernel
theorem d_Rl_grow_78 : decode b_Rl_grow 78 = .ok (.ifCond .lt 46, 3) := by decide +kernel
theorem d_Rl_grow_81 : decode b_Rl_grow 81 = .ok (.lload 5, 2) := by decide +kernel
theorem d_Rl_grow_83 : decode b_Rl_grow 83 = .ok (.ldc2_w 35, 3) := by decide +kernel
theorem d_Rl_grow_86 : decode b_Rl_grow 86 = .ok (.lcmp, 1) := by decide +kernel
theorem d_Rl_grow_87 : decode b_Rl_grow 87 = .ok (.ifCond .eq 22, 3) := by decide +kernel
theorem d_Rl_grow_90 : decode b_Rl_grow 90 = .ok (.aload_n 0, 1) := by decide +kernel
theorem d_Rl_grow_91 : decode b_Rl_grow 91 = .ok (.getfield 15, 3) := by decide +kernel
theorem d_Rl_grow_94 : decode b_Rl_grow 94 = .ok (.iload 7, 2) := by decide +kernel
theorem d_Rl_grow_96 : decode b_Rl_grow 96 = .ok (.iconst 4, 1) := by decide +kernel
theorem d_Rl_grow_97 : decode b_Rl_grow 97 = .ok (.imul, 1) := by decide +kernel
theorem d_Rl_grow_98 : decode b_Rl_grow 98 = .ok (.iload_n 2, 1) := by decide +kernel
theorem d_Rl_grow_99 : decode b_Rl_grow 99 = .ok (.iadd, 1) := by decide +kernel
theorem d_Rl_grow_100 : decode b_Rl_grow 100 = .ok (.laload, 1) := by decide +kernel
theorem d_Rl_grow_101 : decode b_Rl_grow 101 = .ok (.lload 5, 2) := by decide +kernel
theorem d_Rl_grow_103 : decode b_Rl_grow 103 = .ok (.lcmp, 1) := by decide +kernel
theorem d_Rl_grow_104 : decode b_Rl_grow 104 = .ok (.ifCond .ne 5, 3) := by decide +kernel
theorem d_Rl_grow_107 : decode b_Rl_grow 107 = .ok (.lconst 1, 1) := by decide +kernel
theorem d_Rl_grow_108 : decode b_Rl_grow 108 = .ok (.lstore_n 3, 1) := by decide +kernel
theorem d_Rl_grow_109 : decode b_Rl_grow 109 = .ok (.aload_n 0, 1) := by decide +kernel
theorem d_Rl_grow_110 : decode b_Rl_grow 110 = .ok (.getfield 19, 3) := by decide +kernel
theorem d_Rl_grow_113 : decode b_Rl_grow 113 = .ok (.iload 7, 2) := by decide +kernel
theorem d_Rl_grow_115 : decode b_Rl_grow 115 = .ok (.iaload, 1) := by decide +kernel
theorem d_Rl_grow_116 : decode b_Rl_grow 116 = .ok (.istore 7, 2) := by decide +kernel
theorem d_Rl_grow_118 : decode b_Rl_grow 118 = .ok (.iinc 8 1, 3) := by decide +kernel
theorem d_Rl_grow_121 : decode b_Rl_grow 121 = .ok (.goto (-59), 3) := by decide +kernel
theorem d_Rl_grow_124 : decode b_Rl_grow 124 = .ok (.aload_n 0, 1) := by decide +kernel
theorem d_Rl_grow_125 : decode b_Rl_grow 125 = .ok (.getfield 15, 3) := by decide +kernel
theorem d_Rl_grow_128 : decode b_Rl_grow 128 = .ok (.aload_n 0, 1) := by decide +kernel
theorem d_Rl_grow_129 : decode b_Rl_grow 129 = .ok (.getfield 26, 3) := by decide +kernel
theorem d_Rl_grow_132 : decode b_Rl_grow 132 = .ok (.iconst 4, 1) := by decide +kernel
theorem d_Rl_grow_133 : decode b_Rl_grow 133 = .ok (.imul, 1) := by decide +kernel
theorem d_Rl_grow_134 : decode b_Rl_grow 134 = .ok (.iconst 3, 1) := by decide +kernel
theorem d_Rl_grow_135 : decode b_Rl_grow 135 = .ok (.iadd, 1) := by decide +kernel
theorem d_Rl_grow_136 : decode b_Rl_grow 136 = .ok (.lload_n 3, 1) := by decide +kernel
theorem d_Rl_grow_137 : decode b_Rl_grow 137 = .ok (.lastore, 1) := by decide +kernel
theorem d_Rl_grow_138 : decode b_Rl_grow 138 = .ok (.return_, 1) := by decide +kernel
theorem d_Rl_isSame_0 : decode b_Rl_isSame 0 = .ok (.iconst 0, 1) := by decide +kernel
theorem d_Rl_isSame_1 : decode b_Rl_isSame 1 = .ok (.istore_n 3, 1) := by decide +kernel
theorem d_Rl_isSame_2 : decode b_Rl_isSame 2 = .ok (.iload_n 3, 1) := by decide +kernel
theorem d_Rl_isSame_3 : decode b_Rl_isSame 3 = .ok (.aload_n 1, 1) := by decide +kernel
theorem d_Rl_isSame_4 : decode b_Rl_isSame 4 = .ok (.getfield 41, 3) := by decide +kernel
theorem d_Rl_isSame_7 : decode b_Rl_isSame 7 = .ok (.if_icmp .ge 38, 3) := by decide +kernel
theorem d_Rl_isSame_10 : decode b_Rl_isSame 10 = .ok (.aload_n 0, 1) := by decide +kernel
theorem d_Rl_isSame_11 : decode b_Rl_isSame 11 = .ok (.getfield 15, 3) := by decide +kernel
theorem d_Rl_isSame_14 : decode b_Rl_isSame 14 = .ok (.iload_n 2, 1) := by decide +kernel
theorem d_Rl_isSame_15 : decode b_Rl_isSame 15 = .ok (.iconst 4, 1) := by decide +kernel
theorem d_Rl_isSame_16 : decode b_Rl_isSame 16 = .ok (.imul, 1) := by decide +kernel
theorem d_Rl_isSame_17 : decode b_Rl_isSame 17 = .ok (.iload_n 3, 1) := by decide +kernel
theorem d_Rl_isSame_18 : decode b_Rl_isSame 18 = .ok (.iadd, 1) := by decide +kernel
theorem d_Rl_isSame_19 : decode b_Rl_isSame 19 = .ok (.laload, 1) := by decide +kernel
theorem d_Rl_isSame_20 : decode b_Rl_isSame 20 = .ok (.aload_n 0, 1) := by decide +kernel
theorem d_Rl_isSame_21 : decode b_Rl_isSame 21 = .ok (.getfield 15, 3) := by decide +kernel
theorem d_Rl_isSame_24 : decode b_Rl_isSame 24 = .ok (.aload_n 0, 1) := by decide +kernel
theorem d_Rl_isSame_25 : decode b_Rl_isSame 25 = .ok (.getfield 26, 3) := by decide +kernel
theorem d_Rl_isSame_28 : decode b_Rl_isSame 28 = .ok (.iconst 4, 1) := by decide +kernel
theorem d_Rl_isSame_29 : decode b_Rl_isSame 29 = .ok (.imul, 1) := by decide +kernel
theorem d_Rl_isSame_30 : decode b_Rl_isSame 30 = .ok (.iload_n 3, 1) := by decide +kernel
theorem d_Rl_isSame_31 : decode b_Rl_isSame 31 = .ok (.iadd, 1) := by decide +kernel
theorem d_Rl_isSame_32 : decode b_Rl_isSame 32 = .ok (.laload, 1) := by decide +kernel
theorem d_Rl_isSame_33 : decode b_Rl_isSame 33 = .ok (.lcmp, 1) := by decide +kernel
theorem d_Rl_isSame_34 : decode b_Rl_isSame 34 = .ok (.ifCond .eq 5, 3) := by decide +kernel
theorem d_Rl_isSame_37 : decode b_Rl_isSame 37 = .ok (.iconst 0, 1) := by decide +kernel
theorem d_Rl_isSame_38 : decode b_Rl_isSame 38 = .ok (.ireturn, 1) := by decide +kernel
theorem d_Rl_isSame_39 : decode b_Rl_isSame 39 = .ok (.iinc 3 1, 3) := by decide +kernel
theorem d_Rl_isSame_42 : decode b_Rl_isSame 42 = .ok (.goto (-40), 3) := by decide +kernel
theorem d_Rl_isSame_45 : decode b_Rl_isSame 45 = .ok (.aload_n 1, 1) := by decide +kernel
theorem d_Rl_isSame_46 : decode b_Rl_isSame 46 = .ok (.getfield 46, 3) := by decide +kernel
theorem d_Rl_isSame_49 : decode b_Rl_isSame 49 = .ok (.ifCond .ne 12, 3) := by decide +kernel
theorem d_Rl_isSame_52 : decode b_Rl_isSame 52 = .ok (.aload_n 1, 1) := by decide +kernel
theorem d_Rl_isSame_53 : decode b_Rl_isSame 53 = .ok (.getfield 50, 3) := by decide +kernel
theorem d_Rl_isSame_56 : decode b_Rl_isSame 56 = .ok (.ifCond .ne 5, 3) := by decide +kernel
theorem d_Rl_isSame_59 : decode b_Rl_isSame 59 = .ok (.iconst 1, 1) := by decide +kernel
theorem d_Rl_isSame_60 : decode b_Rl_isSame 60 = .ok (.ireturn, 1) := by decide +kernel
theorem d_Rl_isSame_61 : decode b_Rl_isSame 61 = .ok (.aload_n 0, 1) := by decide +kernel
theorem d_Rl_isSame_62 : decode b_Rl_isSame 62 = .ok (.getfield 23, 3) := by decide +kernel
theorem d_Rl_isSame_65 : decode b_Rl_isSame 65 = .ok (.iload_n 2, 1) := by decide +kernel
theorem d_Rl_isSame_66 : decode b_Rl_isSame 66 = .ok (.iaload, 1) := by decide +kernel
theorem d_Rl_isSame_67 : decode b_Rl_isSame 67 = .ok (.aload_n 0, 1) := by decide +kernel
theorem d_Rl_isSame_68 : decode b_Rl_isSame 68 = .ok (.getfield 23, 3) := by decide +kernel
theorem d_Rl_isSame_71 : decode b_Rl_isSame 71 = .ok (.aload_n 0, 1) := by decide +kernel
theorem d_Rl_isSame_72 : decode b_Rl_isSame 72 = .ok (.getfield 26, 3) := by decide +kernel
theorem d_Rl_isSame_75 : decode b_Rl_isSame 75 = .ok (.iaload, 1) := by decide +kernel
theorem d_Rl_isSame_76 : decode b_Rl_isSame 76 = .ok (.if_icmp .eq 5, 3) := by decide +kernel
theorem d_Rl_isSame_79 : decode b_Rl_isSame 79 = .ok (.iconst 0, 1) := by decide +kernel
theorem d_Rl_isSame_80 : decode b_Rl_isSame 80 = .ok (.ireturn, 1) := by decide +kernel
theorem d_Rl_isSame_81 : decode b_Rl_isSame 81 = .ok (.aload_n 1, 1) := by decide +kernel
theorem d_Rl_isSame_82 : decode b_Rl_isSame 82 = .ok (.getfield 53, 3) := by decide +kernel
theorem d_Rl_isSame_85 : decode b_Rl_isSame 85 = .ok (.ifCond .ne 10, 3) := by decide +kernel
theorem d_Rl_isSame_88 : decode b_Rl_isSame 88 = .ok (.aload_n 1, 1) := by decide +kernel
theorem d_Rl_isSame_89 : decode b_Rl_isSame 89 = .ok (.getfield 56, 3) := by decide +kernel
theorem d_Rl_isSame_92 : decode b_Rl_isSame 92 = .ok (.ifCond .ge 10, 3) := by decide +kernel
theorem d_Rl_isSame_95 : decode b_Rl_isSame 95 = .ok (.aload_n 1, 1) := by decide +kernel
theorem d_Rl_isSame_96 : decode b_Rl_isSame 96 = .ok (.getfield 59, 3) := by decide +kernel
theorem d_Rl_isSame_99 : decode b_Rl_isSame 99 = .ok (.goto 7, 3) := by decide +kernel
theorem d_Rl_isSame_102 : decode b_Rl_isSame 102 = .ok (.aload_n 1, 1) := by decide +kernel
theorem d_Rl_isSame_103 : decode b_Rl_isSame 103 = .ok (.getfield 56, 3) := by decide +kernel
theorem d_Rl_isSame_106 : decode b_Rl_isSame 106 = .ok (.istore_n 3, 1) := by decide +kernel
theorem d_Rl_isSame_107 : decode b_Rl_isSame 107 = .ok (.aload_n 1, 1) := by decide +kernel
theorem d_Rl_isSame_108 : decode b_Rl_isSame 108 = .ok (.getfield 59, 3) := by decide +kernel
theorem d_Rl_isSame_111 : decode b_Rl_isSame 111 = .ok (.ifCond .ge 7, 3) := by decide +kernel
theorem d_Rl_isSame_114 : decode b_Rl_isSame 114 = .ok (.iload_n 3, 1) := by decide +kernel
theorem d_Rl_isSame_115 : decode b_Rl_isSame 115 = .ok (.goto 7, 3) := by decide +kernel
theorem d_Rl_isSame_118 : decode b_Rl_isSame 118 = .ok (.aload_n 1, 1) := by decide +kernel
theorem d_Rl_isSame_119 : decode b_Rl_isSame 119 = .ok (.getfield 59, 3) := by decide +kernel
theorem d_Rl_isSame_122 : decode b_Rl_isSame 122 = .ok (.istore 4, 2) := by decide +kernel
theorem d_Rl_isSame_124 : decode b_Rl_isSame 124 = .ok (.iload_n 2, 1) := by decide +kernel
theorem d_Rl_isSame_125 : decode b_Rl_isSame 125 = .ok (.istore 5, 2) := by decide +kernel
theorem d_Rl_isSame_127 : decode b_Rl_isSame 127 = .ok (.aload_n 0, 1) := by decide +kernel
theorem d_Rl_isSame_128 : decode b_Rl_isSame 128 = .ok (.getfield 26, 3) := by decide +kernel
theorem d_Rl_isSame_131 : decode b_Rl_isSame 131 = .ok (.istore 6, 2) := by decide +kernel
theorem d_Rl_isSame_133 : decode b_Rl_isSame 133 = .ok (.iconst 0, 1) := by decide +kernel
theorem d_Rl_isSame_134 : decode b_Rl_isSame 134 = .ok (.istore 7, 2) := by decide +kernel
theorem d_Rl_isSame_136 : decode b_Rl_isSame 136 = .ok (.iload 7, 2) := by decide +kernel
theorem d_Rl_isSame_138 : decode b_Rl_isSame 138 = .ok (.aload_n 0, 1) := by decide +kernel
theorem d_Rl_isSame_139 : decode b_Rl_isSame 139 = .ok (.getfield 23, 3) := by decide +kernel
theorem d_Rl_isSame_142 : decode b_Rl_isSame 142 = .ok (.iload_n 2, 1) := by decide +kernel
theorem d_Rl_isSame_143 : decode b_Rl_isSame 143 = .ok (.iaload, 1) := by decide +kernel
theorem d_Rl_isSame_144 : decode b_Rl_isSame 144 = .ok (.if_icmp .ge 97, 3) := by decide +kernel
theorem d_Rl_isSame_147 : decode b_Rl_isSame 147 = .ok (.iload_n 3, 1) := by decide +kernel
theorem d_Rl_isSame_148 : decode b_Rl_isSame 148 = .ok (.ifCond .lt 93, 3) := by decide +kernel
theorem d_Rl_isSame_151 : decode b_Rl_isSame 151 = .ok (.iload 5, 2) := by decide +kernel
theorem d_Rl_isSame_153 : decode b_Rl_isSame 153 = .ok (.ifCond .lt 88, 3) := by decide +kernel
theorem d_Rl_isSame_156 : decode b_Rl_isSame 156 = .ok (.iload 6, 2) := by decide +kernel
theorem d_Rl_isSame_158 : decode b_Rl_isSame 158 = .ok (.ifCond .lt 83, 3) := by decide +kernel
theorem d_Rl_isSame_161 : decode b_Rl_isSame 161 = .ok (.aload_n 0, 1) := by decide +kernel
theorem d_Rl_isSame_162 : decode b_Rl_isSame 162 = .ok (.getfield 15, 3) := by decide +kernel
theorem d_Rl_isSame_165 : decode b_Rl_isSame 165 = .ok (.iload 5, 2) := by decide +kernel
theorem d_Rl_isSame_167 : decode b_Rl_isSame 167 = .ok (.iconst 4, 1) := by decide +kernel
theorem d_Rl_isSame_168 : decode b_Rl_isSame 168 = .ok (.imul, 1) := by decide +kernel
theorem d_Rl_isSame_169 : decode b_Rl_isSame 169 = .ok (.iload_n 3, 1) := by decide +kernel
theorem d_Rl_isSame_170 : decode b_Rl_isSame 170 = .ok (.iadd, 1) := by decide +kernel
theorem d_Rl_isSame_171 : decode b_Rl_isSame 171 = .ok (.laload, 1) := by decide +kernel
theorem d_Rl_isSame_172 : decode b_Rl_isSame 172 = .ok (.aload_n 0, 1) := by decide +kernel
theorem d_Rl_isSame_173 : decode b_Rl_isSame 173 = .ok (.getfield 15, 3) := by decide +kernel
theorem d_Rl_isSame_176 : decode b_Rl_isSame 176 = .ok (.iload 6, 2) := by decide +kernel
theorem d_Rl_isSame_178 : decode b_Rl_isSame 178 = .ok (.iconst 4, 1) := by decide +kernel
theorem d_Rl_isSame_179 : decode b_Rl_isSame 179 = .ok (.imul, 1) := by decide +kernel
theorem d_Rl_isSame_180 : decode b_Rl_isSame 180 = .ok (.iload_n 3, 1) := by decide +kernel
theorem d_Rl_isSame_181 : decode b_Rl_isSame 181 = .ok (.iadd, 1) := by decide +kernel
theorem d_Rl_isSame_182 : decode b_Rl_isSame 182 = .ok (.laload, 1) := by decide +kernel
theorem d_Rl_isSame_183 : decode b_Rl_isSame 183 = .ok (.lcmp, 1) := by decide +kernel
theorem d_Rl_isSame_184 : decode b_Rl_isSame 184 = .ok (.ifCond .ne 31, 3) := by decide +kernel
theorem d_Rl_isSame_187 : decode b_Rl_isSame 187 = .ok (.aload_n 0, 1) := by decide +kernel
theorem d_Rl_isSame_188 : decode b_Rl_isSame 188 = .ok (.getfield 15, 3) := by decide +kernel
theorem d_Rl_isSame_191 : decode b_Rl_isSame 191 = .ok (.iload 5, 2) := by decide +kernel
theorem d_Rl_isSame_193 : decode b_Rl_isSame 193 = .ok (.iconst 4, 1) := by decide +kernel
theorem d_Rl_isSame_194 : decode b_Rl_isSame 194 = .ok (.imul, 1) := by decide +kernel
theorem d_Rl_isSame_195 : decode b_Rl_isSame 195 = .ok (.iload 4, 2) := by decide +kernel
theorem d_Rl_isSame_197 : decode b_Rl_isSame 197 = .ok (.iadd, 1) := by decide +kernel
theorem d_Rl_isSame_198 : decode b_Rl_isSame 198 = .ok (.laload, 1) := by decide +kernel
theorem d_Rl_isSame_199 : decode b_Rl_isSame 199 = .ok (.aload_n 0, 1) := by decide +kernel
theorem d_Rl_isSame_200 : decode b_Rl_isSame 200 = .ok (.getfield 15, 3) := by decide +kernel
theorem d_Rl_isSame_203 : decode b_Rl_isSame 203 = .ok (.iload 6, 2) := by decide +kernel
theorem d_Rl_isSame_205 : decode b_Rl_isSame 205 = .ok (.iconst 4, 1) := by decide +kernel
theorem d_Rl_isSame_206 : decode b_Rl_isSame 206 = .ok (.imul, 1) := by decide +kernel
theorem d_Rl_isSame_207 : decode b_Rl_isSame 207 = .ok (.iload 4, 2) := by decide +kernel
theorem d_Rl_isSame_209 : decode b_Rl_isSame 209 = .ok (.iadd, 1) := by decide +kernel
theorem d_Rl_isSame_210 : decode b_Rl_isSame 210 = .ok (.laload, 1) := by decide +kernel
theorem d_Rl_isSame_211 : decode b_Rl_isSame 211 = .ok (.lcmp, 1) := by decide +kernel
theorem d_Rl_isSame_212 : decode b_Rl_isSame 212 = .ok (.ifCond .eq 5, 3) := by decide +kernel
theorem d_Rl_isSame_215 : decode b_Rl_isSame 215 = .ok (.iconst 0, 1) := by decide +kernel
theorem d_Rl_isSame_216 : decode b_Rl_isSame 216 = .ok (.ireturn, 1) := by decide +kernel
theorem d_Rl_isSame_217 : decode b_Rl_isSame 217 = .ok (.aload_n 0, 1) := by decide +kernel
theorem d_Rl_isSame_218 : decode b_Rl_isSame 218 = .ok (.getfield 19, 3) := by decide +kernel
theorem d_Rl_isSame_221 : decode b_Rl_isSame 221 = .ok (.iload 5, 2) := by decide +kernel
theorem d_Rl_isSame_223 : decode b_Rl_isSame 223 = .ok (.iaload, 1) := by decide +kernel
theorem d_Rl_isSame_224 : decode b_Rl_isSame 224 = .ok (.istore 5, 2) := by decide +kernel
theorem d_Rl_isSame_226 : decode b_Rl_isSame 226 = .ok (.aload_n 0, 1) := by decide +kernel
theorem d_Rl_isSame_227 : decode b_Rl_isSame 227 = .ok (.getfield 19, 3) := by decide +kernel
theorem d_Rl_isSame_230 : decode b_Rl_isSame 230 = .ok (.iload 6, 2) := by decide +kernel
theorem d_Rl_isSame_232 : decode b_Rl_isSame 232 = .ok (.iaload, 1) := by decide +kernel
theorem d_Rl_isSame_233 : decode b_Rl_isSame 233 = .ok (.istore 6, 2) := by decide +kernel
theorem d_Rl_isSame_235 : decode b_Rl_isSame 235 = .ok (.iinc 7 1, 3) := by decide +kernel
theorem d_Rl_isSame_238 : decode b_Rl_isSame 238 = .ok (.goto (-102), 3) := by decide +kernel
theorem d_Rl_isSame_241 : decode b_Rl_isSame 241 = .ok (.iconst 1, 1) := by decide +kernel
theorem d_Rl_isSame_242 : decode b_Rl_isSame 242 = .ok (.ireturn, 1) := by decide +kernel
theorem d_Rl_hasEqual_0 : decode b_Rl_hasEqual 0 = .ok (.iconst 0, 1) := by decide +kernel
theorem d_Rl_hasEqual_1 : decode b_Rl_hasEqual 1 = .ok (.istore_n 2, 1) := by decide +kernel
theorem d_Rl_hasEqual_2 : decode b_Rl_hasEqual 2 = .ok (.iload_n 2, 1) := by decide +kernel
theorem d_Rl_hasEqual_3 : decode b_Rl_hasEqual 3 = .ok (.aload_n 0, 1) := by decide +kernel
theorem d_Rl_hasEqual_4 : decode b_Rl_hasEqual 4 = .ok (.getfield 26, 3) := by decide +kernel
theorem d_Rl_hasEqual_7 : decode b_Rl_hasEqual 7 = .ok (.if_icmp .ge 20, 3) := by decide +kernel
theorem d_Rl_hasEqual_10 : decode b_Rl_hasEqual 10 = .ok (.aload_n 0, 1) := by decide +kernel
theorem d_Rl_hasEqual_11 : decode b_Rl_hasEqual 11 = .ok (.aload_n 1, 1) := by decide +kernel
theorem d_Rl_hasEqual_12 : decode b_Rl_hasEqual 12 = .ok (.iload_n 2, 1) := by decide +kernel
theorem d_Rl_hasEqual_13 : decode b_Rl_hasEqual 13 = .ok (.invokevirtual 37, 3) := by decide +kernel
theorem d_Rl_hasEqual_16 : decode b_Rl_hasEqual 16 = .ok (.ifCond .eq 5, 3) := by decide +kernel
theorem d_Rl_hasEqual_19 : decode b_Rl_hasEqual 19 = .ok (.iconst 1, 1) := by decide +kernel
theorem d_Rl_hasEqual_20 : decode b_Rl_hasEqual 20 = .ok (.ireturn, 1) := by decide +kernel
theorem d_Rl_hasEqual_21 : decode b_Rl_hasEqual 21 = .ok (.iinc 2 1, 3) := by decide +kernel
theorem d_Rl_hasEqual_24 : decode b_Rl_hasEqual 24 = .ok (.goto (-22), 3) := by decide +kernel
theorem d_Rl_hasEqual_27 : decode b_Rl_hasEqual 27 = .ok (.iconst 0, 1) := by decide +kernel
theorem d_Rl_hasEqual_28 : decode b_Rl_hasEqual 28 = .ok (.ireturn, 1) := by decide +kernel
theorem d_Rl_compareCells_0 : decode b_Rl_compareCells 0 = .ok (.lload_n 0, 1) := by decide +kernel
theorem d_Rl_compareCells_1 : decode b_Rl_compareCells 1 = .ok (.ldc2_w 35, 3) := by decide +kernel
theorem d_Rl_compareCells_4 : decode b_Rl_compareCells 4 = .ok (.lcmp, 1) := by decide +kernel
theorem d_Rl_compareCells_5 : decode b_Rl_compareCells 5 = .ok (.ifCond .ne 9, 3) := by decide +kernel
theorem d_Rl_compareCells_8 : decode b_Rl_compareCells 8 = .ok (.ldc2_w 77, 3) := by decide +kernel
theorem d_Rl_compareCells_11 : decode b_Rl_compareCells 11 = .ok (.goto 4, 3) := by decide +kernel
theorem d_Rl_compareCells_14 : decode b_Rl_compareCells 14 = .ok (.lload_n 0, 1) := by decide +kernel
theorem d_Rl_compareCells_15 : decode b_Rl_compareCells 15 = .ok (.lload_n 2, 1) := by decide +kernel
theorem d_Rl_compareCells_16 : decode b_Rl_compareCells 16 = .ok (.ldc2_w 35, 3) := by decide +kernel
theorem d_Rl_compareCells_19 : decode b_Rl_compareCells 19 = .ok (.lcmp, 1) := by decide +kernel
theorem d_Rl_compareCells_20 : decode b_Rl_compareCells 20 = .ok (.ifCond .ne 9, 3) := by decide +kernel
theorem d_Rl_compareCells_23 : decode b_Rl_compareCells 23 = .ok (.ldc2_w 77, 3) := by decide +kernel
theorem d_Rl_compareCells_26 : decode b_Rl_compareCells 26 = .ok (.goto 4, 3) := by decide +kernel
theorem d_Rl_compareCells_29 : decode b_Rl_compareCells 29 = .ok (.lload_n 2, 1) := by decide +kernel
theorem d_Rl_compareCells_30 : decode b_Rl_compareCells 30 = .ok (.invokestatic 79, 3) := by decide +kernel
theorem d_Rl_compareCells_33 : decode b_Rl_compareCells 33 = .ok (.ireturn, 1) := by decide +kernel
theorem d_Rl_compareTrails_0 : decode b_Rl_compareTrails 0 = .ok (.aload_n 1, 1) := by decide +kernel
theorem d_Rl_compareTrails_1 : decode b_Rl_compareTrails 1 = .ok (.getfield 56, 3) := by decide +kernel
theorem d_Rl_compareTrails_4 : decode b_Rl_compareTrails 4 = .ok (.istore 4, 2) := by decide +kernel
theorem d_Rl_compareTrails_6 : decode b_Rl_compareTrails 6 = .ok (.aload_n 0, 1) := by decide +kernel
theorem d_Rl_compareTrails_7 : decode b_Rl_compareTrails 7 = .ok (.getfield 23, 3) := by decide +kernel
theorem d_Rl_compareTrails_10 : decode b_Rl_compareTrails 10 = .ok (.iload_n 2, 1) := by decide +kernel
theorem d_Rl_compareTrails_11 : decode b_Rl_compareTrails 11 = .ok (.iaload, 1) := by decide +kernel
theorem d_Rl_compareTrails_12 : decode b_Rl_compareTrails 12 = .ok (.aload_n 0, 1) := by decide +kernel
theorem d_Rl_compareTrails_13 : decode b_Rl_compareTrails 13 = .ok (.getfield 23, 3) := by decide +kernel
theorem d_Rl_compareTrails_16 : decode b_Rl_compareTrails 16 = .ok (.iload_n 3, 1) := by decide +kernel
theorem d_Rl_compareTrails_17 : decode b_Rl_compareTrails 17 = .ok (.iaload, 1) := by decide +kernel
theorem d_Rl_compareTrails_18 : decode b_Rl_compareTrails 18 = .ok (.invokestatic 62, 3) := by decide +kernel
theorem d_Rl_compareTrails_21 : decode b_Rl_compareTrails 21 = .ok (.istore 5, 2) := by decide +kernel
theorem d_Rl_compareTrails_23 : decode b_Rl_compareTrails 23 = .ok (.aload_n 1, 1) := by decide +kernel
theorem d_Rl_compareTrails_24 : decode b_Rl_compareTrails 24 = .ok (.getfield 53, 3) := by decide +kernel
theorem d_Rl_compareTrails_27 : decode b_Rl_compareTrails 27 = .ok (.ifCond .eq 39, 3) := by decide +kernel
theorem d_Rl_compareTrails_30 : decode b_Rl_compareTrails 30 = .ok (.iload 5, 2) := by decide +kernel
theorem d_Rl_compareTrails_32 : decode b_Rl_compareTrails 32 = .ok (.ifCond .eq 8, 3) := by decide +kernel
theorem d_Rl_compareTrails_35 : decode b_Rl_compareTrails 35 = .ok (.iload 5, 2) := by decide +kernel
theorem d_Rl_compareTrails_37 : decode b_Rl_compareTrails 37 = .ok (.goto 28, 3) := by decide +kernel
theorem d_Rl_compareTrails_40 : decode b_Rl_compareTrails 40 = .ok (.aload_n 0, 1) := by decide +kernel
theorem d_Rl_compareTrails_41 : decode b_Rl_compareTrails 41 = .ok (.getfield 15, 3) := by decide +kernel
theorem d_Rl_compareTrails_44 : decode b_Rl_compareTrails 44 = .ok (.iload_n 2, 1) := by decide +kernel
theorem d_Rl_compareTrails_45 : decode b_Rl_compareTrails 45 = .ok (.iconst 4, 1) := by decide +kernel
theorem d_Rl_compareTrails_46 : decode b_Rl_compareTrails 46 = .ok (.imul, 1) := by decide +kernel
theorem d_Rl_compareTrails_47 : decode b_Rl_compareTrails 47 = .ok (.iload 4, 2) := by decide +kernel
theorem d_Rl_compareTrails_49 : decode b_Rl_compareTrails 49 = .ok (.iadd, 1) := by decide +kernel
theorem d_Rl_compareTrails_50 : decode b_Rl_compareTrails 50 = .ok (.laload, 1) := by decide +kernel
theorem d_Rl_compareTrails_51 : decode b_Rl_compareTrails 51 = .ok (.aload_n 0, 1) := by decide +kernel
theorem d_Rl_compareTrails_52 : decode b_Rl_compareTrails 52 = .ok (.getfield 15, 3) := by decide +kernel
theorem d_Rl_compareTrails_55 : decode b_Rl_compareTrails 55 = .ok (.iload_n 3, 1) := by decide +kernel
theorem d_Rl_compareTrails_56 : decode b_Rl_compareTrails 56 = .ok (.iconst 4, 1) := by decide +kernel
theorem d_Rl_compareTrails_57 : decode b_Rl_compareTrails 57 = .ok (.imul, 1) := by decide +kernel
theorem d_Rl_compareTrails_58 : decode b_Rl_compareTrails 58 = .ok (.iload 4, 2) := by decide +kernel
theorem d_Rl_compareTrails_60 : decode b_Rl_compareTrails 60 = .ok (.iadd, 1) := by decide +kernel
theorem d_Rl_compareTrails_61 : decode b_Rl_compareTrails 61 = .ok (.laload, 1) := by decide +kernel
theorem d_Rl_compareTrails_62 : decode b_Rl_compareTrails 62 = .ok (.invokestatic 68, 3) := by decide +kernel
theorem d_Rl_compareTrails_65 : decode b_Rl_compareTrails 65 = .ok (.ireturn, 1) := by decide +kernel
theorem d_Rl_compareTrails_66 : decode b_Rl_compareTrails 66 = .ok (.iload_n 2, 1) := by decide +kernel
theorem d_Rl_compareTrails_67 : decode b_Rl_compareTrails 67 = .ok (.istore 6, 2) := by decide +kernel
theorem d_Rl_compareTrails_69 : decode b_Rl_compareTrails 69 = .ok (.iload_n 3, 1) := by decide +kernel
theorem d_Rl_compareTrails_70 : decode b_Rl_compareTrails 70 = .ok (.istore 7, 2) := by decide +kernel
theorem d_Rl_compareTrails_72 : decode b_Rl_compareTrails 72 = .ok (.aload_n 0, 1) := by decide +kernel
theorem d_Rl_compareTrails_73 : decode b_Rl_compareTrails 73 = .ok (.getfield 23, 3) := by decide +kernel
theorem d_Rl_compareTrails_76 : decode b_Rl_compareTrails 76 = .ok (.iload_n 2, 1) := by decide +kernel
theorem d_Rl_compareTrails_77 : decode b_Rl_compareTrails 77 = .ok (.iaload, 1) := by decide +kernel
theorem d_Rl_compareTrails_78 : decode b_Rl_compareTrails 78 = .ok (.aload_n 0, 1) := by decide +kernel
theorem d_Rl_compareTrails_79 : decode b_Rl_compareTrails 79 = .ok (.getfield 23, 3) := by decide +kernel
theorem d_Rl_compareTrails_82 : decode b_Rl_compareTrails 82 = .ok (.iload_n 3, 1) := by decide +kernel
theorem d_Rl_compareTrails_83 : decode b_Rl_compareTrails 83 = .ok (.iaload, 1) := by decide +kernel
theorem d_Rl_compareTrails_84 : decode b_Rl_compareTrails 84 = .ok (.invokestatic 72, 3) := by decide +kernel
theorem d_Rl_compareTrails_87 : decode b_Rl_compareTrails 87 = .ok (.istore 8, 2) := by decide +kernel
theorem d_Rl_compareTrails_89 : decode b_Rl_compareTrails 89 = .ok (.iload 8, 2) := by decide +kernel
theorem d_Rl_compareTrails_91 : decode b_Rl_compareTrails 91 = .ok (.ifCond .le 152, 3) := by decide +kernel
theorem d_Rl_compareTrails_94 : decode b_Rl_compareTrails 94 = .ok (.iload 6, 2) := by decide +kernel
theorem d_Rl_compareTrails_96 : decode b_Rl_compareTrails 96 = .ok (.ifCond .lt 147, 3) := by decide +kernel
theorem d_Rl_compareTrails_99 : decode b_Rl_compareTrails 99 = .ok (.iload 7, 2) := by decide +kernel
theorem d_Rl_compareTrails_101 : decode b_Rl_compareTrails 101 = .ok (.ifCond .lt 142, 3) := by decide +kernel
theorem d_Rl_compareTrails_104 : decode b_Rl_compareTrails 104 = .ok (.aload_n 0, 1) := by decide +kernel
theorem d_Rl_compareTrails_105 : decode b_Rl_compareTrails 105 = .ok (.getfield 23, 3) := by decide +kernel
theorem d_Rl_compareTrails_108 : decode b_Rl_compareTrails 108 = .ok (.iload 6, 2) := by decide +kernel
theorem d_Rl_compareTrails_110 : decode b_Rl_compareTrails 110 = .ok (.iaload, 1) := by decide +kernel
theorem d_Rl_compareTrails_111 : decode b_Rl_compareTrails 111 = .ok (.iload 8, 2) := by decide +kernel
theorem d_Rl_compareTrails_113 : decode b_Rl_compareTrails 113 = .ok (.if_icmp .ne 7, 3) := by decide +kernel
theorem d_Rl_compareTrails_116 : decode b_Rl_compareTrails 116 = .ok (.iconst 1, 1) := by decide +kernel
theorem d_Rl_compareTrails_117 : decode b_Rl_compareTrails 117 = .ok (.goto 4, 3) := by decide +kernel
theorem d_Rl_compareTrails_120 : decode b_Rl_compareTrails 120 = .ok (.iconst 0, 1) := by decide +kernel
theorem d_Rl_compareTrails_121 : decode b_Rl_compareTrails 121 = .ok (.istore 9, 2) := by decide +kernel
theorem d_Rl_compareTrails_123 : decode b_Rl_compareTrails 123 = .ok (.aload_n 0, 1) := by decide +kernel
theorem d_Rl_compareTrails_124 : decode b_Rl_compareTrails 124 = .ok (.getfield 23, 3) := by decide +kernel
theorem d_Rl_compareTrails_127 : decode b_Rl_compareTrails 127 = .ok (.iload 7, 2) := by decide +kernel
theorem d_Rl_compareTrails_129 : decode b_Rl_compareTrails 129 = .ok (.iaload, 1) := by decide +kernel
theorem d_Rl_compareTrails_130 : decode b_Rl_compareTrails 130 = .ok (.iload 8, 2) := by decide +kernel
theorem d_Rl_compareTrails_132 : decode b_Rl_compareTrails 132 = .ok (.if_icmp .ne 7, 3) := by decide +kernel
theorem d_Rl_compareTrails_135 : decode b_Rl_compareTrails 135 = .ok (.iconst 1, 1) := by decide +kernel
theorem d_Rl_compareTrails_136 : decode b_Rl_compareTrails 136 = .ok (.goto 4, 3) := by decide +kernel
theorem d_Rl_compareTrails_139 : decode b_Rl_compareTrails 139 = .ok (.iconst 0, 1) := by decide +kernel
theorem d_Rl_compareTrails_140 : decode b_Rl_compareTrails 140 = .ok (.istore 10, 2) := by decide +kernel
theorem d_Rl_compareTrails_142 : decode b_Rl_compareTrails 142 = .ok (.iload 9, 2) := by decide +kernel
theorem d_Rl_compareTrails_144 : decode b_Rl_compareTrails 144 = .ok (.ifCond .eq 38, 3) := by decide +kernel
theorem d_Rl_compareTrails_147 : decode b_Rl_compareTrails 147 = .ok (.iload 10, 2) := by decide +kernel
theorem d_Rl_compareTrails_149 : decode b_Rl_compareTrails 149 = .ok (.ifCond .eq 33, 3) := by decide +kernel
theorem d_Rl_compareTrails_152 : decode b_Rl_compareTrails 152 = .ok (.aload_n 0, 1) := by decide +kernel
theorem d_Rl_compareTrails_153 : decode b_Rl_compareTrails 153 = .ok (.getfield 15, 3) := by decide +kernel
theorem d_Rl_compareTrails_156 : decode b_Rl_compareTrails 156 = .ok (.iload 6, 2) := by decide +kernel
theorem d_Rl_compareTrails_158 : decode b_Rl_compareTrails 158 = .ok (.iconst 4, 1) := by decide +kernel
theorem d_Rl_compareTrails_159 : decode b_Rl_compareTrails 159 = .ok (.imul, 1) := by decide +kernel
theorem d_Rl_compareTrails_160 : decode b_Rl_compareTrails 160 = .ok (.iload 4, 2) := by decide +kernel
theorem d_Rl_compareTrails_162 : decode b_Rl_compareTrails 162 = .ok (.iadd, 1) := by decide +kernel
theorem d_Rl_compareTrails_163 : decode b_Rl_compareTrails 163 = .ok (.laload, 1) := by decide +kernel
theorem d_Rl_compareTrails_164 : decode b_Rl_compareTrails 164 = .ok (.aload_n 0, 1) := by decide +kernel
theorem d_Rl_compareTrails_165 : decode b_Rl_compareTrails 165 = .ok (.getfield 15, 3) := by decide +kernel
theorem d_Rl_compareTrails_168 : decode b_Rl_compareTrails 168 = .ok (.iload 7, 2) := by decide +kernel
theorem d_Rl_compareTrails_170 : decode b_Rl_compareTrails 170 = .ok (.iconst 4, 1) := by decide +kernel
theorem d_Rl_compareTrails_171 : decode b_Rl_compareTrails 171 = .ok (.imul, 1) := by decide +kernel
theorem d_Rl_compareTrails_172 : decode b_Rl_compareTrails 172 = .ok (.iload 4, 2) := by decide +kernel
theorem d_Rl_compareTrails_174 : decode b_Rl_compareTrails 174 = .ok (.iadd, 1) := by decide +kernel
theorem d_Rl_compareTrails_175 : decode b_Rl_compareTrails 175 = .ok (.laload, 1) := by decide +kernel
theorem d_Rl_compareTrails_176 : decode b_Rl_compareTrails 176 = .ok (.invokestatic 68, 3) := by decide +kernel
theorem d_Rl_compareTrails_179 : decode b_Rl_compareTrails 179 = .ok (.goto 4, 3) := by decide +kernel
theorem d_Rl_compareTrails_182 : decode b_Rl_compareTrails 182 = .ok (.iconst 0, 1) := by decide +kernel
theorem d_Rl_compareTrails_183 : decode b_Rl_compareTrails 183 = .ok (.istore 11, 2) := by decide +kernel
theorem d_Rl_compareTrails_185 : decode b_Rl_compareTrails 185 = .ok (.iload 11, 2) := by decide +kernel
theorem d_Rl_compareTrails_187 : decode b_Rl_compareTrails 187 = .ok (.ifCond .eq 8, 3) := by decide +kernel
theorem d_Rl_compareTrails_190 : decode b_Rl_compareTrails 190 = .ok (.iload 11, 2) := by decide +kernel
theorem d_Rl_compareTrails_192 : decode b_Rl_compareTrails 192 = .ok (.goto 5, 3) := by decide +kernel
theorem d_Rl_compareTrails_195 : decode b_Rl_compareTrails 195 = .ok (.iload 5, 2) := by decide +kernel
theorem d_Rl_compareTrails_197 : decode b_Rl_compareTrails 197 = .ok (.istore 5, 2) := by decide +kernel
theorem d_Rl_compareTrails_199 : decode b_Rl_compareTrails 199 = .ok (.iload 9, 2) := by decide +kernel
theorem d_Rl_compareTrails_201 : decode b_Rl_compareTrails 201 = .ok (.ifCond .eq 13, 3) := by decide +kernel
theorem d_Rl_compareTrails_204 : decode b_Rl_compareTrails 204 = .ok (.aload_n 0, 1) := by decide +kernel
theorem d_Rl_compareTrails_205 : decode b_Rl_compareTrails 205 = .ok (.getfield 19, 3) := by decide +kernel
theorem d_Rl_compareTrails_208 : decode b_Rl_compareTrails 208 = .ok (.iload 6, 2) := by decide +kernel
theorem d_Rl_compareTrails_210 : decode b_Rl_compareTrails 210 = .ok (.iaload, 1) := by decide +kernel
theorem d_Rl_compareTrails_211 : decode b_Rl_compareTrails 211 = .ok (.goto 5, 3) := by decide +kernel
theorem d_Rl_compareTrails_214 : decode b_Rl_compareTrails 214 = .ok (.iload 6, 2) := by decide +kernel
theorem d_Rl_compareTrails_216 : decode b_Rl_compareTrails 216 = .ok (.istore 6, 2) := by decide +kernel
theorem d_Rl_compareTrails_218 : decode b_Rl_compareTrails 218 = .ok (.iload 10, 2) := by decide +kernel
theorem d_Rl_compareTrails_220 : decode b_Rl_compareTrails 220 = .ok (.ifCond .eq 13, 3) := by decide +kernel
theorem d_Rl_compareTrails_223 : decode b_Rl_compareTrails 223 = .ok (.aload_n 0, 1) := by decide +kernel
theorem d_Rl_compareTrails_224 : decode b_Rl_compareTrails 224 = .ok (.getfield 19, 3) := by decide +kernel
theorem d_Rl_compareTrails_227 : decode b_Rl_compareTrails 227 = .ok (.iload 7, 2) := by decide +kernel
theorem d_Rl_compareTrails_229 : decode b_Rl_compareTrails 229 = .ok (.iaload, 1) := by decide +kernel
theorem d_Rl_compareTrails_230 : decode b_Rl_compareTrails 230 = .ok (.goto 5, 3) := by decide +kernel
theorem d_Rl_compareTrails_233 : decode b_Rl_compareTrails 233 = .ok (.iload 7, 2) := by decide +kernel
theorem d_Rl_compareTrails_235 : decode b_Rl_compareTrails 235 = .ok (.istore 7, 2) := by decide +kernel
theorem d_Rl_compareTrails_237 : decode b_Rl_compareTrails 237 = .ok (.iinc 8 (-1), 3) := by decide +kernel
theorem d_Rl_compareTrails_240 : decode b_Rl_compareTrails 240 = .ok (.goto (-151), 3) := by decide +kernel
theorem d_Rl_compareTrails_243 : decode b_Rl_compareTrails 243 = .ok (.iload 5, 2) := by decide +kernel
theorem d_Rl_compareTrails_245 : decode b_Rl_compareTrails 245 = .ok (.ireturn, 1) := by decide +kernel
