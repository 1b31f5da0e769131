theorem d_M_resolveNotExists_47 : decode b_M_resolveNotExists 47 = .ok (.invokevirtual 313, 3) := by decide +kernel
theorem d_M_resolveNotExists_50 : decode b_M_resolveNotExists 50 = .ok (.iconst 0, 1) := by decide +kernel
theorem d_M_resolveNotExists_51 : decode b_M_resolveNotExists 51 = .ok (.istore 4, 2) := by decide +kernel
theorem d_M_resolveNotExists_53 : decode b_M_resolveNotExists 53 = .ok (.iload 4, 2) := by decide +kernel
theorem d_M_resolveNotExists_55 : decode b_M_resolveNotExists 55 = .ok (.aload_n 0, 1) := by decide +kernel
theorem d_M_resolveNotExists_56 : decode b_M_resolveNotExists 56 = .ok (.getfield 156, 3) := by decide +kernel
theorem d_M_resolveNotExists_59 : decode b_M_resolveNotExists 59 = .ok (.iload_n 2, 1) := by decide +kernel
theorem d_M_resolveNotExists_60 : decode b_M_resolveNotExists 60 = .ok (.iaload, 1) := by decide +kernel
theorem d_M_resolveNotExists_61 : decode b_M_resolveNotExists 61 = .ok (.if_icmp .ge 26, 3) := by decide +kernel
theorem d_M_resolveNotExists_64 : decode b_M_resolveNotExists 64 = .ok (.aload_n 0, 1) := by decide +kernel
theorem d_M_resolveNotExists_65 : decode b_M_resolveNotExists 65 = .ok (.iload_n 1, 1) := by decide +kernel
theorem d_M_resolveNotExists_66 : decode b_M_resolveNotExists 66 = .ok (.aload_n 0, 1) := by decide +kernel
theorem d_M_resolveNotExists_67 : decode b_M_resolveNotExists 67 = .ok (.getfield 159, 3) := by decide +kernel
theorem d_M_resolveNotExists_70 : decode b_M_resolveNotExists 70 = .ok (.iconst 3, 1) := by decide +kernel
theorem d_M_resolveNotExists_71 : decode b_M_resolveNotExists 71 = .ok (.iload_n 2, 1) := by decide +kernel
theorem d_M_resolveNotExists_72 : decode b_M_resolveNotExists 72 = .ok (.imul, 1) := by decide +kernel
theorem d_M_resolveNotExists_73 : decode b_M_resolveNotExists 73 = .ok (.iload 4, 2) := by decide +kernel
theorem d_M_resolveNotExists_75 : decode b_M_resolveNotExists 75 = .ok (.iadd, 1) := by decide +kernel
theorem d_M_resolveNotExists_76 : decode b_M_resolveNotExists 76 = .ok (.iaload, 1) := by decide +kernel
theorem d_M_resolveNotExists_77 : decode b_M_resolveNotExists 77 = .ok (.iload_n 3, 1) := by decide +kernel
theorem d_M_resolveNotExists_78 : decode b_M_resolveNotExists 78 = .ok (.invokevirtual 415, 3) := by decide +kernel
theorem d_M_resolveNotExists_81 : decode b_M_resolveNotExists 81 = .ok (.iinc 4 1, 3) := by decide +kernel
theorem d_M_resolveNotExists_84 : decode b_M_resolveNotExists 84 = .ok (.goto (-31), 3) := by decide +kernel
theorem d_M_resolveNotExists_87 : decode b_M_resolveNotExists 87 = .ok (.return_, 1) := by decide +kernel
theorem d_M_resolveSelection_0 : decode b_M_resolveSelection 0 = .ok (.iconst 0, 1) := by decide +kernel
theorem d_M_resolveSelection_1 : decode b_M_resolveSelection 1 = .ok (.istore_n 2, 1) := by decide +kernel
theorem d_M_resolveSelection_2 : decode b_M_resolveSelection 2 = .ok (.iload_n 2, 1) := by decide +kernel
theorem d_M_resolveSelection_3 : decode b_M_resolveSelection 3 = .ok (.aload_n 0, 1) := by decide +kernel
theorem d_M_resolveSelection_4 : decode b_M_resolveSelection 4 = .ok (.getfield 93, 3) := by decide +kernel
theorem d_M_resolveSelection_7 : decode b_M_resolveSelection 7 = .ok (.iload_n 1, 1) := by decide +kernel
theorem d_M_resolveSelection_8 : decode b_M_resolveSelection 8 = .ok (.iaload, 1) := by decide +kernel
theorem d_M_resolveSelection_9 : decode b_M_resolveSelection 9 = .ok (.if_icmp .ge 61, 3) := by decide +kernel
theorem d_M_resolveSelection_12 : decode b_M_resolveSelection 12 = .ok (.aload_n 0, 1) := by decide +kernel
theorem d_M_resolveSelection_13 : decode b_M_resolveSelection 13 = .ok (.getfield 90, 3) := by decide +kernel
theorem d_M_resolveSelection_16 : decode b_M_resolveSelection 16 = .ok (.iload_n 1, 1) := by decide +kernel
theorem d_M_resolveSelection_17 : decode b_M_resolveSelection 17 = .ok (.iaload, 1) := by decide +kernel
theorem d_M_resolveSelection_18 : decode b_M_resolveSelection 18 = .ok (.iload_n 2, 1) := by decide +kernel
theorem d_M_resolveSelection_19 : decode b_M_resolveSelection 19 = .ok (.iadd, 1) := by decide +kernel
theorem d_M_resolveSelection_20 : decode b_M_resolveSelection 20 = .ok (.istore_n 3, 1) := by decide +kernel
theorem d_M_resolveSelection_21 : decode b_M_resolveSelection 21 = .ok (.aload_n 0, 1) := by decide +kernel
theorem d_M_resolveSelection_22 : decode b_M_resolveSelection 22 = .ok (.iload_n 1, 1) := by decide +kernel
theorem d_M_resolveSelection_23 : decode b_M_resolveSelection 23 = .ok (.iload_n 3, 1) := by decide +kernel
theorem d_M_resolveSelection_24 : decode b_M_resolveSelection 24 = .ok (.invokevirtual 412, 3) := by decide +kernel
theorem d_M_resolveSelection_27 : decode b_M_resolveSelection 27 = .ok (.aload_n 0, 1) := by decide +kernel
theorem d_M_resolveSelection_28 : decode b_M_resolveSelection 28 = .ok (.iload_n 1, 1) := by decide +kernel
theorem d_M_resolveSelection_29 : decode b_M_resolveSelection 29 = .ok (.aload_n 0, 1) := by decide +kernel
theorem d_M_resolveSelection_30 : decode b_M_resolveSelection 30 = .ok (.getfield 32, 3) := by decide +kernel
theorem d_M_resolveSelection_33 : decode b_M_resolveSelection 33 = .ok (.aload_n 0, 1) := by decide +kernel
theorem d_M_resolveSelection_34 : decode b_M_resolveSelection 34 = .ok (.getfield 135, 3) := by decide +kernel
theorem d_M_resolveSelection_37 : decode b_M_resolveSelection 37 = .ok (.iload_n 3, 1) := by decide +kernel
theorem d_M_resolveSelection_38 : decode b_M_resolveSelection 38 = .ok (.iaload, 1) := by decide +kernel
theorem d_M_resolveSelection_39 : decode b_M_resolveSelection 39 = .ok (.laload, 1) := by decide +kernel
theorem d_M_resolveSelection_40 : decode b_M_resolveSelection 40 = .ok (.iconst (-1), 1) := by decide +kernel
theorem d_M_resolveSelection_41 : decode b_M_resolveSelection 41 = .ok (.invokevirtual 400, 3) := by decide +kernel
theorem d_M_resolveSelection_44 : decode b_M_resolveSelection 44 = .ok (.iload_n 2, 1) := by decide +kernel
theorem d_M_resolveSelection_45 : decode b_M_resolveSelection 45 = .ok (.if_icmp .ge 19, 3) := by decide +kernel
theorem d_M_resolveSelection_48 : decode b_M_resolveSelection 48 = .ok (.aload_n 0, 1) := by decide +kernel
theorem d_M_resolveSelection_49 : decode b_M_resolveSelection 49 = .ok (.iconst 2, 1) := by decide +kernel
theorem d_M_resolveSelection_50 : decode b_M_resolveSelection 50 = .ok (.aload_n 0, 1) := by decide +kernel
theorem d_M_resolveSelection_51 : decode b_M_resolveSelection 51 = .ok (.getfield 29, 3) := by decide +kernel
theorem d_M_resolveSelection_54 : decode b_M_resolveSelection 54 = .ok (.aload_n 0, 1) := by decide +kernel
theorem d_M_resolveSelection_55 : decode b_M_resolveSelection 55 = .ok (.getfield 135, 3) := by decide +kernel
theorem d_M_resolveSelection_58 : decode b_M_resolveSelection 58 = .ok (.iload_n 3, 1) := by decide +kernel
theorem d_M_resolveSelection_59 : decode b_M_resolveSelection 59 = .ok (.iaload, 1) := by decide +kernel
theorem d_M_resolveSelection_60 : decode b_M_resolveSelection 60 = .ok (.iaload, 1) := by decide +kernel
theorem d_M_resolveSelection_61 : decode b_M_resolveSelection 61 = .ok (.invokevirtual 313, 3) := by decide +kernel
theorem d_M_resolveSelection_64 : decode b_M_resolveSelection 64 = .ok (.iinc 2 1, 3) := by decide +kernel
theorem d_M_resolveSelection_67 : decode b_M_resolveSelection 67 = .ok (.goto (-65), 3) := by decide +kernel
theorem d_M_resolveSelection_70 : decode b_M_resolveSelection 70 = .ok (.iconst 0, 1) := by decide +kernel
theorem d_M_resolveSelection_71 : decode b_M_resolveSelection 71 = .ok (.istore_n 2, 1) := by decide +kernel
theorem d_M_resolveSelection_72 : decode b_M_resolveSelection 72 = .ok (.iload_n 2, 1) := by decide +kernel
theorem d_M_resolveSelection_73 : decode b_M_resolveSelection 73 = .ok (.aload_n 0, 1) := by decide +kernel
theorem d_M_resolveSelection_74 : decode b_M_resolveSelection 74 = .ok (.getfield 87, 3) := by decide +kernel
theorem d_M_resolveSelection_77 : decode b_M_resolveSelection 77 = .ok (.iload_n 1, 1) := by decide +kernel
theorem d_M_resolveSelection_78 : decode b_M_resolveSelection 78 = .ok (.iaload, 1) := by decide +kernel
theorem d_M_resolveSelection_79 : decode b_M_resolveSelection 79 = .ok (.if_icmp .ge 35, 3) := by decide +kernel
theorem d_M_resolveSelection_82 : decode b_M_resolveSelection 82 = .ok (.aload_n 0, 1) := by decide +kernel
theorem d_M_resolveSelection_83 : decode b_M_resolveSelection 83 = .ok (.getfield 108, 3) := by decide +kernel
theorem d_M_resolveSelection_86 : decode b_M_resolveSelection 86 = .ok (.aload_n 0, 1) := by decide +kernel
theorem d_M_resolveSelection_87 : decode b_M_resolveSelection 87 = .ok (.getfield 84, 3) := by decide +kernel
theorem d_M_resolveSelection_90 : decode b_M_resolveSelection 90 = .ok (.iload_n 1, 1) := by decide +kernel
theorem d_M_resolveSelection_91 : decode b_M_resolveSelection 91 = .ok (.iaload, 1) := by decide +kernel
theorem d_M_resolveSelection_92 : decode b_M_resolveSelection 92 = .ok (.iload_n 2, 1) := by decide +kernel
theorem d_M_resolveSelection_93 : decode b_M_resolveSelection 93 = .ok (.iadd, 1) := by decide +kernel
theorem d_M_resolveSelection_94 : decode b_M_resolveSelection 94 = .ok (.iaload, 1) := by decide +kernel
theorem d_M_resolveSelection_95 : decode b_M_resolveSelection 95 = .ok (.istore_n 3, 1) := by decide +kernel
theorem d_M_resolveSelection_96 : decode b_M_resolveSelection 96 = .ok (.iload_n 3, 1) := by decide +kernel
theorem d_M_resolveSelection_97 : decode b_M_resolveSelection 97 = .ok (.iconst (-1), 1) := by decide +kernel
theorem d_M_resolveSelection_98 : decode b_M_resolveSelection 98 = .ok (.if_icmp .eq 10, 3) := by decide +kernel
theorem d_M_resolveSelection_101 : decode b_M_resolveSelection 101 = .ok (.aload_n 0, 1) := by decide +kernel
theorem d_M_resolveSelection_102 : decode b_M_resolveSelection 102 = .ok (.iload_n 1, 1) := by decide +kernel
theorem d_M_resolveSelection_103 : decode b_M_resolveSelection 103 = .ok (.iload_n 3, 1) := by decide +kernel
theorem d_M_resolveSelection_104 : decode b_M_resolveSelection 104 = .ok (.iconst (-1), 1) := by decide +kernel
theorem d_M_resolveSelection_105 : decode b_M_resolveSelection 105 = .ok (.invokevirtual 408, 3) := by decide +kernel
theorem d_M_resolveSelection_108 : decode b_M_resolveSelection 108 = .ok (.iinc 2 1, 3) := by decide +kernel
theorem d_M_resolveSelection_111 : decode b_M_resolveSelection 111 = .ok (.goto (-39), 3) := by decide +kernel
theorem d_M_resolveSelection_114 : decode b_M_resolveSelection 114 = .ok (.iconst 0, 1) := by decide +kernel
theorem d_M_resolveSelection_115 : decode b_M_resolveSelection 115 = .ok (.istore_n 2, 1) := by decide +kernel
theorem d_M_resolveSelection_116 : decode b_M_resolveSelection 116 = .ok (.iload_n 2, 1) := by decide +kernel
theorem d_M_resolveSelection_117 : decode b_M_resolveSelection 117 = .ok (.aload_n 0, 1) := by decide +kernel
theorem d_M_resolveSelection_118 : decode b_M_resolveSelection 118 = .ok (.getfield 96, 3) := by decide +kernel
theorem d_M_resolveSelection_121 : decode b_M_resolveSelection 121 = .ok (.iload_n 1, 1) := by decide +kernel
theorem d_M_resolveSelection_122 : decode b_M_resolveSelection 122 = .ok (.iaload, 1) := by decide +kernel
theorem d_M_resolveSelection_123 : decode b_M_resolveSelection 123 = .ok (.if_icmp .ge 47, 3) := by decide +kernel
theorem d_M_resolveSelection_126 : decode b_M_resolveSelection 126 = .ok (.aload_n 0, 1) := by decide +kernel
theorem d_M_resolveSelection_127 : decode b_M_resolveSelection 127 = .ok (.getfield 99, 3) := by decide +kernel
theorem d_M_resolveSelection_130 : decode b_M_resolveSelection 130 = .ok (.bipush 6, 2) := by decide +kernel
theorem d_M_resolveSelection_132 : decode b_M_resolveSelection 132 = .ok (.iload_n 1, 1) := by decide +kernel
theorem d_M_resolveSelection_133 : decode b_M_resolveSelection 133 = .ok (.imul, 1) := by decide +kernel
theorem d_M_resolveSelection_134 : decode b_M_resolveSelection 134 = .ok (.iload_n 2, 1) := by decide +kernel
theorem d_M_resolveSelection_135 : decode b_M_resolveSelection 135 = .ok (.iadd, 1) := by decide +kernel
theorem d_M_resolveSelection_136 : decode b_M_resolveSelection 136 = .ok (.iaload, 1) := by decide +kernel
theorem d_M_resolveSelection_137 : decode b_M_resolveSelection 137 = .ok (.istore_n 3, 1) := by decide +kernel
theorem d_M_resolveSelection_138 : decode b_M_resolveSelection 138 = .ok (.aload_n 0, 1) := by decide +kernel
theorem d_M_resolveSelection_139 : decode b_M_resolveSelection 139 = .ok (.getfield 141, 3) := by decide +kernel
theorem d_M_resolveSelection_142 : decode b_M_resolveSelection 142 = .ok (.iload_n 3, 1) := by decide +kernel
theorem d_M_resolveSelection_143 : decode b_M_resolveSelection 143 = .ok (.iaload, 1) := by decide +kernel
theorem d_M_resolveSelection_144 : decode b_M_resolveSelection 144 = .ok (.iconst 2, 1) := by decide +kernel
theorem d_M_resolveSelection_145 : decode b_M_resolveSelection 145 = .ok (.if_icmp .ne 12, 3) := by decide +kernel
theorem d_M_resolveSelection_148 : decode b_M_resolveSelection 148 = .ok (.aload_n 0, 1) := by decide +kernel
theorem d_M_resolveSelection_149 : decode b_M_resolveSelection 149 = .ok (.iload_n 1, 1) := by decide +kernel
theorem d_M_resolveSelection_150 : decode b_M_resolveSelection 150 = .ok (.iload_n 3, 1) := by decide +kernel
theorem d_M_resolveSelection_151 : decode b_M_resolveSelection 151 = .ok (.invokevirtual 418, 3) := by decide +kernel
theorem d_M_resolveSelection_154 : decode b_M_resolveSelection 154 = .ok (.goto 10, 3) := by decide +kernel
theorem d_M_resolveSelection_157 : decode b_M_resolveSelection 157 = .ok (.aload_n 0, 1) := by decide +kernel
theorem d_M_resolveSelection_158 : decode b_M_resolveSelection 158 = .ok (.iload_n 1, 1) := by decide +kernel
theorem d_M_resolveSelection_159 : decode b_M_resolveSelection 159 = .ok (.iload_n 3, 1) := by decide +kernel
theorem d_M_resolveSelection_160 : decode b_M_resolveSelection 160 = .ok (.iconst (-1), 1) := by decide +kernel
theorem d_M_resolveSelection_161 : decode b_M_resolveSelection 161 = .ok (.invokevirtual 415, 3) := by decide +kernel
theorem d_M_resolveSelection_164 : decode b_M_resolveSelection 164 = .ok (.iinc 2 1, 3) := by decide +kernel
theorem d_M_resolveSelection_167 : decode b_M_resolveSelection 167 = .ok (.goto (-51), 3) := by decide +kernel
theorem d_M_resolveSelection_170 : decode b_M_resolveSelection 170 = .ok (.return_, 1) := by decide +kernel
theorem d_M_ownColumn_0 : decode b_M_ownColumn 0 = .ok (.iconst 0, 1) := by decide +kernel
theorem d_M_ownColumn_1 : decode b_M_ownColumn 1 = .ok (.istore_n 3, 1) := by decide +kernel
theorem d_M_ownColumn_2 : decode b_M_ownColumn 2 = .ok (.iload_n 3, 1) := by decide +kernel
theorem d_M_ownColumn_3 : decode b_M_ownColumn 3 = .ok (.aload_n 0, 1) := by decide +kernel
theorem d_M_ownColumn_4 : decode b_M_ownColumn 4 = .ok (.getfield 38, 3) := by decide +kernel
theorem d_M_ownColumn_7 : decode b_M_ownColumn 7 = .ok (.iload_n 1, 1) := by decide +kernel
theorem d_M_ownColumn_8 : decode b_M_ownColumn 8 = .ok (.iaload, 1) := by decide +kernel
theorem d_M_ownColumn_9 : decode b_M_ownColumn 9 = .ok (.if_icmp .ge 36, 3) := by decide +kernel
theorem d_M_ownColumn_12 : decode b_M_ownColumn 12 = .ok (.aload_n 0, 1) := by decide +kernel
theorem d_M_ownColumn_13 : decode b_M_ownColumn 13 = .ok (.getfield 32, 3) := by decide +kernel
theorem d_M_ownColumn_16 : decode b_M_ownColumn 16 = .ok (.aload_n 0, 1) := by decide +kernel
theorem d_M_ownColumn_17 : decode b_M_ownColumn 17 = .ok (.getfield 41, 3) := by decide +kernel
theorem d_M_ownColumn_20 : decode b_M_ownColumn 20 = .ok (.iconst 3, 1) := by decide +kernel
theorem d_M_ownColumn_21 : decode b_M_ownColumn 21 = .ok (.iload_n 1, 1) := by decide +kernel
theorem d_M_ownColumn_22 : decode b_M_ownColumn 22 = .ok (.imul, 1) := by decide +kernel
theorem d_M_ownColumn_23 : decode b_M_ownColumn 23 = .ok (.iload_n 3, 1) := by decide +kernel
theorem d_M_ownColumn_24 : decode b_M_ownColumn 24 = .ok (.iadd, 1) := by decide +kernel
theorem d_M_ownColumn_25 : decode b_M_ownColumn 25 = .ok (.iaload, 1) := by decide +kernel
theorem d_M_ownColumn_26 : decode b_M_ownColumn 26 = .ok (.laload, 1) := by decide +kernel
theorem d_M_ownColumn_27 : decode b_M_ownColumn 27 = .ok (.aload_n 0, 1) := by decide +kernel
theorem d_M_ownColumn_28 : decode b_M_ownColumn 28 = .ok (.getfield 32, 3) := by decide +kernel
theorem d_M_ownColumn_31 : decode b_M_ownColumn 31 = .ok (.iload_n 2, 1) := by decide +kernel
theorem d_M_ownColumn_32 : decode b_M_ownColumn 32 = .ok (.laload, 1) := by decide +kernel
theorem d_M_ownColumn_33 : decode b_M_ownColumn 33 = .ok (.lcmp, 1) := by decide +kernel
theorem d_M_ownColumn_34 : decode b_M_ownColumn 34 = .ok (.ifCond .ne 5, 3) := by decide +kernel
theorem d_M_ownColumn_37 : decode b_M_ownColumn 37 = .ok (.iload_n 3, 1) := by decide +kernel
theorem d_M_ownColumn_38 : decode b_M_ownColumn 38 = .ok (.ireturn, 1) := by decide +kernel
theorem d_M_ownColumn_39 : decode b_M_ownColumn 39 = .ok (.iinc 3 1, 3) := by decide +kernel
theorem d_M_ownColumn_42 : decode b_M_ownColumn 42 = .ok (.goto (-40), 3) := by decide +kernel
theorem d_M_ownColumn_45 : decode b_M_ownColumn 45 = .ok (.aload_n 0, 1) := by decide +kernel
theorem d_M_ownColumn_46 : decode b_M_ownColumn 46 = .ok (.iconst 2, 1) := by decide +kernel
theorem d_M_ownColumn_47 : decode b_M_ownColumn 47 = .ok (.aload_n 0, 1) := by decide +kernel
theorem d_M_ownColumn_48 : decode b_M_ownColumn 48 = .ok (.getfield 29, 3) := by decide +kernel
theorem d_M_ownColumn_51 : decode b_M_ownColumn 51 = .ok (.iload_n 2, 1) := by decide +kernel
theorem d_M_ownColumn_52 : decode b_M_ownColumn 52 = .ok (.iaload, 1) := by decide +kernel
theorem d_M_ownColumn_53 : decode b_M_ownColumn 53 = .ok (.invokevirtual 313, 3) := by decide +kernel
theorem d_M_ownColumn_56 : decode b_M_ownColumn 56 = .ok (.iconst 0, 1) := by decide +kernel
theorem d_M_ownColumn_57 : decode b_M_ownColumn 57 = .ok (.ireturn, 1) := by decide +kernel
theorem d_M_fresh_0 : decode b_M_fresh 0 = .ok (.iload 4, 2) := by decide +kernel
theorem d_M_fresh_2 : decode b_M_fresh 2 = .ok (.ifCond .eq 37, 3) := by decide +kernel
theorem d_M_fresh_5 : decode b_M_fresh 5 = .ok (.aload_n 0, 1) := by decide +kernel
theorem d_M_fresh_6 : decode b_M_fresh 6 = .ok (.getfield 44, 3) := by decide +kernel
theorem d_M_fresh_9 : decode b_M_fresh 9 = .ok (.iload_n 1, 1) := by decide +kernel
theorem d_M_fresh_10 : decode b_M_fresh 10 = .ok (.iaload, 1) := by decide +kernel
theorem d_M_fresh_11 : decode b_M_fresh 11 = .ok (.ifCond .le 28, 3) := by decide +kernel
theorem d_M_fresh_14 : decode b_M_fresh 14 = .ok (.aload_n 0, 1) := by decide +kernel
theorem d_M_fresh_15 : decode b_M_fresh 15 = .ok (.getfield 32, 3) := by decide +kernel
theorem d_M_fresh_18 : decode b_M_fresh 18 = .ok (.aload_n 0, 1) := by decide +kernel
theorem d_M_fresh_19 : decode b_M_fresh 19 = .ok (.getfield 50, 3) := by decide +kernel
theorem d_M_fresh_22 : decode b_M_fresh 22 = .ok (.iload_n 1, 1) := by decide +kernel
theorem d_M_fresh_23 : decode b_M_fresh 23 = .ok (.iaload, 1) := by decide +kernel
theorem d_M_fresh_24 : decode b_M_fresh 24 = .ok (.laload, 1) := by decide +kernel
theorem d_M_fresh_25 : decode b_M_fresh 25 = .ok (.aload_n 0, 1) := by decide +kernel
theorem d_M_fresh_26 : decode b_M_fresh 26 = .ok (.getfield 32, 3) := by decide +kernel
theorem d_M_fresh_29 : decode b_M_fresh 29 = .ok (.iload_n 2, 1) := by decide +kernel
theorem d_M_fresh_30 : decode b_M_fresh 30 = .ok (.laload, 1) := by decide +kernel
theorem d_M_fresh_31 : decode b_M_fresh 31 = .ok (.lcmp, 1) := by decide +kernel
theorem d_M_fresh_32 : decode b_M_fresh 32 = .ok (.ifCond .ne 7, 3) := by decide +kernel
theorem d_M_fresh_35 : decode b_M_fresh 35 = .ok (.iconst 1, 1) := by decide +kernel
theorem d_M_fresh_36 : decode b_M_fresh 36 = .ok (.goto 4, 3) := by decide +kernel
theorem d_M_fresh_39 : decode b_M_fresh 39 = .ok (.iconst 0, 1) := by decide +kernel
theorem d_M_fresh_40 : decode b_M_fresh 40 = .ok (.istore 5, 2) := by decide +kernel
theorem d_M_fresh_42 : decode b_M_fresh 42 = .ok (.iconst 0, 1) := by decide +kernel
theorem d_M_fresh_43 : decode b_M_fresh 43 = .ok (.istore 6, 2) := by decide +kernel
theorem d_M_fresh_45 : decode b_M_fresh 45 = .ok (.iload 6, 2) := by decide +kernel
theorem d_M_fresh_47 : decode b_M_fresh 47 = .ok (.iload_n 3, 1) := by decide +kernel
theorem d_M_fresh_48 : decode b_M_fresh 48 = .ok (.if_icmp .ge 47, 3) := by decide +kernel
theorem d_M_fresh_51 : decode b_M_fresh 51 = .ok (.iload 5, 2) := by decide +kernel
theorem d_M_fresh_53 : decode b_M_fresh 53 = .ok (.ifCond .ne 29, 3) := by decide +kernel
theorem d_M_fresh_56 : decode b_M_fresh 56 = .ok (.aload_n 0, 1) := by decide +kernel
theorem d_M_fresh_57 : decode b_M_fresh 57 = .ok (.getfield 32, 3) := by decide +kernel
theorem d_M_fresh_60 : decode b_M_fresh 60 = .ok (.aload_n 0, 1) := by decide +kernel
theorem d_M_fresh_61 : decode b_M_fresh 61 = .ok (.getfield 41, 3) := by decide +kernel
theorem d_M_fresh_64 : decode b_M_fresh 64 = .ok (.iconst 3, 1) := by decide +kernel
theorem d_M_fresh_65 : decode b_M_fresh 65 = .ok (.iload_n 1, 1) := by decide +kernel
theorem d_M_fresh_66 : decode b_M_fresh 66 = .ok (.imul, 1) := by decide +kernel
theorem d_M_fresh_67 : decode b_M_fresh 67 = .ok (.iload 6, 2) := by decide +kernel
theorem d_M_fresh_69 : decode b_M_fresh 69 = .ok (.iadd, 1) := by decide +kernel
theorem d_M_fresh_70 : decode b_M_fresh 70 = .ok (.iaload, 1) := by decide +kernel
theorem d_M_fresh_71 : decode b_M_fresh 71 = .ok (.laload, 1) := by decide +kernel
theorem d_M_fresh_72 : decode b_M_fresh 72 = .ok (.aload_n 0, 1) := by decide +kernel
theorem d_M_fresh_73 : decode b_M_fresh 73 = .ok (.getfield 32, 3) := by decide +kernel
theorem d_M_fresh_76 : decode b_M_fresh 76 = .ok (.iload_n 2, 1) := by decide +kernel
theorem d_M_fresh_77 : decode b_M_fresh 77 = .ok (.laload, 1) := by decide +kernel
theorem d_M_fresh_78 : decode b_M_fresh 78 = .ok (.lcmp, 1) := by decide +kernel
theorem d_M_fresh_79 : decode b_M_fresh 79 = .ok (.ifCond .ne 7, 3) := by decide +kernel
theorem d_M_fresh_82 : decode b_M_fresh 82 = .ok (.iconst 1, 1) := by decide +kernel
theorem d_M_fresh_83 : decode b_M_fresh 83 = .ok (.goto 4, 3) := by decide +kernel
theorem d_M_fresh_86 : decode b_M_fresh 86 = .ok (.iconst 0, 1) := by decide +kernel
theorem d_M_fresh_87 : decode b_M_fresh 87 = .ok (.istore 5, 2) := by decide +kernel
theorem d_M_fresh_89 : decode b_M_fresh 89 = .ok (.iinc 6 1, 3) := by decide +kernel
theorem d_M_fresh_92 : decode b_M_fresh 92 = .ok (.goto (-47), 3) := by decide +kernel
theorem d_M_fresh_95 : decode b_M_fresh 95 = .ok (.iload 5, 2) := by decide +kernel
theorem d_M_fresh_97 : decode b_M_fresh 97 = .ok (.ifCond .eq 14, 3) := by decide +kernel
theorem d_M_fresh_100 : decode b_M_fresh 100 = .ok (.aload_n 0, 1) := by decide +kernel
theorem d_M_fresh_101 : decode b_M_fresh 101 = .ok (.iconst 2, 1) := by decide +kernel
theorem d_M_fresh_102 : decode b_M_fresh 102 = .ok (.aload_n 0, 1) := by decide +kernel
theorem d_M_fresh_103 : decode b_M_fresh 103 = .ok (.getfield 29, 3) := by decide +kernel
theorem d_M_fresh_106 : decode b_M_fresh 106 = .ok (.iload_n 2, 1) := by decide +kernel
theorem d_M_fresh_107 : decode b_M_fresh 107 = .ok (.iaload, 1) := by decide +kernel
theorem d_M_fresh_108 : decode b_M_fresh 108 = .ok (.invokevirtual 313, 3) := by decide +kernel
theorem d_M_fresh_111 : decode b_M_fresh 111 = .ok (.return_, 1) := by decide +kernel
theorem d_M_resolvePart_0 : decode b_M_resolvePart 0 = .ok (.iconst 0, 1) := by decide +kernel
theorem d_M_resolvePart_1 : decode b_M_resolvePart 1 = .ok (.istore_n 2, 1) := by decide +kernel
theorem d_M_resolvePart_2 : decode b_M_resolvePart 2 = .ok (.iload_n 2, 1) := by decide +kernel
theorem d_M_resolvePart_3 : decode b_M_resolvePart 3 = .ok (.iload_n 1, 1) := by decide +kernel
theorem d_M_resolvePart_4 : decode b_M_resolvePart 4 = .ok (.if_icmp .ge 51, 3) := by decide +kernel
theorem d_M_resolvePart_7 : decode b_M_resolvePart 7 = .ok (.aload_n 0, 1) := by decide +kernel
theorem d_M_resolvePart_8 : decode b_M_resolvePart 8 = .ok (.getfield 32, 3) := by decide +kernel
theorem d_M_resolvePart_11 : decode b_M_resolvePart 11 = .ok (.aload_n 0, 1) := by decide +kernel
theorem d_M_resolvePart_12 : decode b_M_resolvePart 12 = .ok (.getfield 35, 3) := by decide +kernel
theorem d_M_resolvePart_15 : decode b_M_resolvePart 15 = .ok (.iload_n 2, 1) := by decide +kernel
theorem d_M_resolvePart_16 : decode b_M_resolvePart 16 = .ok (.iaload, 1) := by decide +kernel
theorem d_M_resolvePart_17 : decode b_M_resolvePart 17 = .ok (.laload, 1) := by decide +kernel
theorem d_M_resolvePart_18 : decode b_M_resolvePart 18 = .ok (.aload_n 0, 1) := by decide +kernel
theorem d_M_resolvePart_19 : decode b_M_resolvePart 19 = .ok (.getfield 32, 3) := by decide +kernel
theorem d_M_resolvePart_22 : decode b_M_resolvePart 22 = .ok (.aload_n 0, 1) := by decide +kernel
theorem d_M_resolvePart_23 : decode b_M_resolvePart 23 = .ok (.getfield 35, 3) := by decide +kernel
theorem d_M_resolvePart_26 : decode b_M_resolvePart 26 = .ok (.iload_n 1, 1) := by decide +kernel
theorem d_M_resolvePart_27 : decode b_M_resolvePart 27 = .ok (.iaload, 1) := by decide +kernel
theorem d_M_resolvePart_28 : decode b_M_resolvePart 28 = .ok (.laload, 1) := by decide +kernel
theorem d_M_resolvePart_29 : decode b_M_resolvePart 29 = .ok (.lcmp, 1) := by decide +kernel
theorem d_M_resolvePart_30 : decode b_M_resolvePart 30 = .ok (.ifCond .ne 19, 3) := by decide +kernel
theorem d_M_resolvePart_33 : decode b_M_resolvePart 33 = .ok (.aload_n 0, 1) := by decide +kernel
theorem d_M_resolvePart_34 : decode b_M_resolvePart 34 = .ok (.iconst 2, 1) := by decide +kernel
theorem d_M_resolvePart_35 : decode b_M_resolvePart 35 = .ok (.aload_n 0, 1) := by decide +kernel
theorem d_M_resolvePart_36 : decode b_M_resolvePart 36 = .ok (.getfield 29, 3) := by decide +kernel
theorem d_M_resolvePart_39 : decode b_M_resolvePart 39 = .ok (.aload_n 0, 1) := by decide +kernel
theorem d_M_resolvePart_40 : decode b_M_resolvePart 40 = .ok (.getfield 35, 3) := by decide +kernel
theorem d_M_resolvePart_43 : decode b_M_resolvePart 43 = .ok (.iload_n 1, 1) := by decide +kernel
theorem d_M_resolvePart_44 : decode b_M_resolvePart 44 = .ok (.iaload, 1) := by decide +kernel
theorem d_M_resolvePart_45 : decode b_M_resolvePart 45 = .ok (.iaload, 1) := by decide +kernel
theorem d_M_resolvePart_46 : decode b_M_resolvePart 46 = .ok (.invokevirtual 313, 3) := by decide +kernel
theorem d_M_resolvePart_49 : decode b_M_resolvePart 49 = .ok (.iinc 2 1, 3) := by decide +kernel
theorem d_M_resolvePart_52 : decode b_M_resolvePart 52 = .ok (.goto (-50), 3) := by decide +kernel
theorem d_M_resolvePart_55 : decode b_M_resolvePart 55 = .ok (.iconst 1, 1) := by decide +kernel
theorem d_M_resolvePart_56 : decode b_M_resolvePart 56 = .ok (.istore_n 2, 1) := by decide +kernel
theorem d_M_resolvePart_57 : decode b_M_resolvePart 57 = .ok (.iload_n 2, 1) := by decide +kernel
theorem d_M_resolvePart_58 : decode b_M_resolvePart 58 = .ok (.aload_n 0, 1) := by decide +kernel
theorem d_M_resolvePart_59 : decode b_M_resolvePart 59 = .ok (.getfield 38, 3) := by decide +kernel
theorem d_M_resolvePart_62 : decode b_M_resolvePart 62 = .ok (.iload_n 1, 1) := by decide +kernel
theorem d_M_resolvePart_63 : decode b_M_resolvePart 63 = .ok (.iaload, 1) := by decide +kernel
theorem d_M_resolvePart_64 : decode b_M_resolvePart 64 = .ok (.if_icmp .ge 26, 3) := by decide +kernel
theorem d_M_resolvePart_67 : decode b_M_resolvePart 67 = .ok (.aload_n 0, 1) := by decide +kernel
theorem d_M_resolvePart_68 : decode b_M_resolvePart 68 = .ok (.iload_n 1, 1) := by decide +kernel
theorem d_M_resolvePart_69 : decode b_M_resolvePart 69 = .ok (.aload_n 0, 1) := by decide +kernel
theorem d_M_resolvePart_70 : decode b_M_resolvePart 70 = .ok (.getfield 41, 3) := by decide +kernel
theorem d_M_resolvePart_73 : decode b_M_resolvePart 73 = .ok (.iconst 3, 1) := by decide +kernel
theorem d_M_resolvePart_74 : decode b_M_resolvePart 74 = .ok (.iload_n 1, 1) := by decide +kernel
theorem d_M_resolvePart_75 : decode b_M_resolvePart 75 = .ok (.imul, 1) := by decide +kernel
theorem d_M_resolvePart_76 : decode b_M_resolvePart 76 = .ok (.iload_n 2, 1) := by decide +kernel
theorem d_M_resolvePart_77 : decode b_M_resolvePart 77 = .ok (.iadd, 1) := by decide +kernel
theorem d_M_resolvePart_78 : decode b_M_resolvePart 78 = .ok (.iaload, 1) := by decide +kernel
theorem d_M_resolvePart_79 : decode b_M_resolvePart 79 = .ok (.iload_n 2, 1) := by decide +kernel
theorem d_M_resolvePart_80 : decode b_M_resolvePart 80 = .ok (.iconst 0, 1) := by decide +kernel
theorem d_M_resolvePart_81 : decode b_M_resolvePart 81 = .ok (.invokevirtual 421, 3) := by decide +kernel
theorem d_M_resolvePart_84 : decode b_M_resolvePart 84 = .ok (.iinc 2 1, 3) := by decide +kernel
theorem d_M_resolvePart_87 : decode b_M_resolvePart 87 = .ok (.goto (-30), 3) := by decide +kernel
theorem d_M_resolvePart_90 : decode b_M_resolvePart 90 = .ok (.aload_n 0, 1) := by decide +kernel
theorem d_M_resolvePart_91 : decode b_M_resolvePart 91 = .ok (.getfield 44, 3) := by decide +kernel
theorem d_M_resolvePart_94 : decode b_M_resolvePart 94 = .ok (.iload_n 1, 1) := by decide +kernel
theorem d_M_resolvePart_95 : decode b_M_resolvePart 95 = .ok (.iaload, 1) := by decide +kernel
theorem d_M_resolvePart_96 : decode b_M_resolvePart 96 = .ok (.ifCond .le 38, 3) := by decide +kernel
theorem d_M_resolvePart_99 : decode b_M_resolvePart 99 = .ok (.aload_n 0, 1) := by decide +kernel
theorem d_M_resolvePart_100 : decode b_M_resolvePart 100 = .ok (.getfield 59, 3) := by decide +kernel
theorem d_M_resolvePart_103 : decode b_M_resolvePart 103 = .ok (.iload_n 1, 1) := by decide +kernel
theorem d_M_resolvePart_104 : decode b_M_resolvePart 104 = .ok (.aload_n 0, 1) := by decide +kernel
theorem d_M_resolvePart_105 : decode b_M_resolvePart 105 = .ok (.iload_n 1, 1) := by decide +kernel
theorem d_M_resolvePart_106 : decode b_M_resolvePart 106 = .ok (.aload_n 0, 1) := by decide +kernel
theorem d_M_resolvePart_107 : decode b_M_resolvePart 107 = .ok (.getfield 47, 3) := by decide +kernel
theorem d_M_resolvePart_110 : decode b_M_resolvePart 110 = .ok (.iload_n 1, 1) := by decide +kernel
theorem d_M_resolvePart_111 : decode b_M_resolvePart 111 = .ok (.iaload, 1) := by decide +kernel
theorem d_M_resolvePart_112 : decode b_M_resolvePart 112 = .ok (.invokevirtual 425, 3) := by decide +kernel
theorem d_M_resolvePart_115 : decode b_M_resolvePart 115 = .ok (.iastore, 1) := by decide +kernel
theorem d_M_resolvePart_116 : decode b_M_resolvePart 116 = .ok (.aload_n 0, 1) := by decide +kernel
theorem d_M_resolvePart_117 : decode b_M_resolvePart 117 = .ok (.iload_n 1, 1) := by decide +kernel
theorem d_M_resolvePart_118 : decode b_M_resolvePart 118 = .ok (.aload_n 0, 1) := by decide +kernel
theorem d_M_resolvePart_119 : decode b_M_resolvePart 119 = .ok (.getfield 50, 3) := by decide +kernel
theorem d_M_resolvePart_122 : decode b_M_resolvePart 122 = .ok (.iload_n 1, 1) := by decide +kernel
theorem d_M_resolvePart_123 : decode b_M_resolvePart 123 = .ok (.iaload, 1) := by decide +kernel
theorem d_M_resolvePart_124 : decode b_M_resolvePart 124 = .ok (.aload_n 0, 1) := by decide +kernel
theorem d_M_resolvePart_125 : decode b_M_resolvePart 125 = .ok (.getfield 38, 3) := by decide +kernel
theorem d_M_resolvePart_128 : decode b_M_resolvePart 128 = .ok (.iload_n 1, 1) := by decide +kernel
theorem d_M_resolvePart_129 : decode b_M_resolvePart 129 = .ok (.iaload, 1) := by decide +kernel
theorem d_M_resolvePart_130 : decode b_M_resolvePart 130 = .ok (.iconst 0, 1) := by decide +kernel
theorem d_M_resolvePart_131 : decode b_M_resolvePart 131 = .ok (.invokevirtual 421, 3) := by decide +kernel
theorem d_M_resolvePart_134 : decode b_M_resolvePart 134 = .ok (.aload_n 0, 1) := by decide +kernel
theorem d_M_resolvePart_135 : decode b_M_resolvePart 135 = .ok (.getfield 53, 3) := by decide +kernel
theorem d_M_resolvePart_138 : decode b_M_resolvePart 138 = .ok (.iload_n 1, 1) := by decide +kernel
theorem d_M_resolvePart_139 : decode b_M_resolvePart 139 = .ok (.iaload, 1) := by decide +kernel
theorem d_M_resolvePart_140 : decode b_M_resolvePart 140 = .ok (.iconst (-1), 1) := by decide +kernel
theorem d_M_resolvePart_141 : decode b_M_resolvePart 141 = .ok (.if_icmp .eq 38, 3) := by decide +kernel
theorem d_M_resolvePart_144 : decode b_M_resolvePart 144 = .ok (.aload_n 0, 1) := by decide +kernel
theorem d_M_resolvePart_145 : decode b_M_resolvePart 145 = .ok (.getfield 62, 3) := by decide +kernel
theorem d_M_resolvePart_148 : decode b_M_resolvePart 148 = .ok (.iload_n 1, 1) := by decide +kernel
theorem d_M_resolvePart_149 : decode b_M_resolvePart 149 = .ok (.aload_n 0, 1) := by decide +kernel
theorem d_M_resolvePart_150 : decode b_M_resolvePart 150 = .ok (.iload_n 1, 1) := by decide +kernel
theorem d_M_resolvePart_151 : decode b_M_resolvePart 151 = .ok (.aload_n 0, 1) := by decide +kernel
theorem d_M_resolvePart_152 : decode b_M_resolvePart 152 = .ok (.getfield 53, 3) := by decide +kernel
theorem d_M_resolvePart_155 : decode b_M_resolvePart 155 = .ok (.iload_n 1, 1) := by decide +kernel
theorem d_M_resolvePart_156 : decode b_M_resolvePart 156 = .ok (.iaload, 1) := by decide +kernel
theorem d_M_resolvePart_157 : decode b_M_resolvePart 157 = .ok (.invokevirtual 425, 3) := by decide +kernel
theorem d_M_resolvePart_160 : decode b_M_resolvePart 160 = .ok (.iastore, 1) := by decide +kernel
theorem d_M_resolvePart_161 : decode b_M_resolvePart 161 = .ok (.aload_n 0, 1) := by decide +kernel
theorem d_M_resolvePart_162 : decode b_M_resolvePart 162 = .ok (.iload_n 1, 1) := by decide +kernel
theorem d_M_resolvePart_163 : decode b_M_resolvePart 163 = .ok (.aload_n 0, 1) := by decide +kernel
theorem d_M_resolvePart_164 : decode b_M_resolvePart 164 = .ok (.getfield 56, 3) := by decide +kernel
theorem d_M_resolvePart_167 : decode b_M_resolvePart 167 = .ok (.iload_n 1, 1) := by decide +kernel
theorem d_M_resolvePart_168 : decode b_M_resolvePart 168 = .ok (.iaload, 1) := by decide +kernel
theorem d_M_resolvePart_169 : decode b_M_resolvePart 169 = .ok (.aload_n 0, 1) := by decide +kernel
theorem d_M_resolvePart_170 : decode b_M_resolvePart 170 = .ok (.getfield 38, 3) := by decide +kernel
theorem d_M_resolvePart_173 : decode b_M_resolvePart 173 = .ok (.iload_n 1, 1) := by decide +kernel
theorem d_M_resolvePart_174 : decode b_M_resolvePart 174 = .ok (.iaload, 1) := by decide +kernel
theorem d_M_resolvePart_175 : decode b_M_resolvePart 175 = .ok (.iconst 1, 1) := by decide +kernel
theorem d_M_resolvePart_176 : decode b_M_resolvePart 176 = .ok (.invokevirtual 421, 3) := by decide +kernel
theorem d_M_resolvePart_179 : decode b_M_resolvePart 179 = .ok (.return_, 1) := by decide +kernel
theorem d_M_resolveOrder_0 : decode b_M_resolveOrder 0 = .ok (.aload_n 0, 1) := by decide +kernel
theorem d_M_resolveOrder_1 : decode b_M_resolveOrder 1 = .ok (.getfield 392, 3) := by decide +kernel
theorem d_M_resolveOrder_4 : decode b_M_resolveOrder 4 = .ok (.ifCond .le 26, 3) := by decide +kernel
theorem d_M_resolveOrder_7 : decode b_M_resolveOrder 7 = .ok (.aload_n 0, 1) := by decide +kernel
theorem d_M_resolveOrder_8 : decode b_M_resolveOrder 8 = .ok (.getfield 102, 3) := by decide +kernel
theorem d_M_resolveOrder_11 : decode b_M_resolveOrder 11 = .ok (.iload_n 1, 1) := by decide +kernel
theorem d_M_resolveOrder_12 : decode b_M_resolveOrder 12 = .ok (.baload, 1) := by decide +kernel
theorem d_M_resolveOrder_13 : decode b_M_resolveOrder 13 = .ok (.ifCond .eq 17, 3) := by decide +kernel
theorem d_M_resolveOrder_16 : decode b_M_resolveOrder 16 = .ok (.aload_n 0, 1) := by decide +kernel
theorem d_M_resolveOrder_17 : decode b_M_resolveOrder 17 = .ok (.iconst 2, 1) := by decide +kernel
theorem d_M_resolveOrder_18 : decode b_M_resolveOrder 18 = .ok (.aload_n 0, 1) := by decide +kernel
theorem d_M_resolveOrder_19 : decode b_M_resolveOrder 19 = .ok (.getfield 29, 3) := by decide +kernel
theorem d_M_resolveOrder_22 : decode b_M_resolveOrder 22 = .ok (.aload_n 0, 1) := by decide +kernel
theorem d_M_resolveOrder_23 : decode b_M_resolveOrder 23 = .ok (.getfield 389, 3) := by decide +kernel
theorem d_M_resolveOrder_26 : decode b_M_resolveOrder 26 = .ok (.iaload, 1) := by decide +kernel
theorem d_M_resolveOrder_27 : decode b_M_resolveOrder 27 = .ok (.invokevirtual 313, 3) := by decide +kernel
theorem d_M_resolveOrder_30 : decode b_M_resolveOrder 30 = .ok (.iconst 0, 1) := by decide +kernel
theorem d_M_resolveOrder_31 : decode b_M_resolveOrder 31 = .ok (.istore_n 2, 1) := by decide +kernel
theorem d_M_resolveOrder_32 : decode b_M_resolveOrder 32 = .ok (.iload_n 2, 1) := by decide +kernel
theorem d_M_resolveOrder_33 : decode b_M_resolveOrder 33 = .ok (.aload_n 0, 1) := by decide +kernel
theorem d_M_resolveOrder_34 : decode b_M_resolveOrder 34 = .ok (.getfield 392, 3) := by decide +kernel
theorem d_M_resolveOrder_37 : decode b_M_resolveOrder 37 = .ok (.if_icmp .ge 102, 3) := by decide +kernel
theorem d_M_resolveOrder_40 : decode b_M_resolveOrder 40 = .ok (.aload_n 0, 1) := by decide +kernel
theorem d_M_resolveOrder_41 : decode b_M_resolveOrder 41 = .ok (.getfield 162, 3) := by decide +kernel
theorem d_M_resolveOrder_44 : decode b_M_resolveOrder 44 = .ok (.iload_n 2, 1) := by decide +kernel
theorem d_M_resolveOrder_45 : decode b_M_resolveOrder 45 = .ok (.iaload, 1) := by decide +kernel
theorem d_M_resolveOrder_46 : decode b_M_resolveOrder 46 = .ok (.istore_n 3, 1) := by decide +kernel
theorem d_M_resolveOrder_47 : decode b_M_resolveOrder 47 = .ok (.aload_n 0, 1) := by decide +kernel
theorem d_M_resolveOrder_48 : decode b_M_resolveOrder 48 = .ok (.iload_n 1, 1) := by decide +kernel
theorem d_M_resolveOrder_49 : decode b_M_resolveOrder 49 = .ok (.aload_n 0, 1) := by decide +kernel
theorem d_M_resolveOrder_50 : decode b_M_resolveOrder 50 = .ok (.getfield 32, 3) := by decide +kernel
theorem d_M_resolveOrder_53 : decode b_M_resolveOrder 53 = .ok (.iload_n 3, 1) := by decide +kernel
theorem d_M_resolveOrder_54 : decode b_M_resolveOrder 54 = .ok (.laload, 1) := by decide +kernel
theorem d_M_resolveOrder_55 : decode b_M_resolveOrder 55 = .ok (.iconst (-1), 1) := by decide +kernel
theorem d_M_resolveOrder_56 : decode b_M_resolveOrder 56 = .ok (.invokevirtual 400, 3) := by decide +kernel
theorem d_M_resolveOrder_59 : decode b_M_resolveOrder 59 = .ok (.istore 4, 2) := by decide +kernel
theorem d_M_resolveOrder_61 : decode b_M_resolveOrder 61 = .ok (.aload_n 0, 1) := by decide +kernel
theorem d_M_resolveOrder_62 : decode b_M_resolveOrder 62 = .ok (.getfield 165, 3) := by decide +kernel
theorem d_M_resolveOrder_65 : decode b_M_resolveOrder 65 = .ok (.iload_n 2, 1) := by decide +kernel
theorem d_M_resolveOrder_66 : decode b_M_resolveOrder 66 = .ok (.iload 4, 2) := by decide +kernel
theorem d_M_resolveOrder_68 : decode b_M_resolveOrder 68 = .ok (.iastore, 1) := by decide +kernel
theorem d_M_resolveOrder_69 : decode b_M_resolveOrder 69 = .ok (.aload_n 0, 1) := by decide +kernel
theorem d_M_resolveOrder_70 : decode b_M_resolveOrder 70 = .ok (.getfield 168, 3) := by decide +kernel
theorem d_M_resolveOrder_73 : decode b_M_resolveOrder 73 = .ok (.iload_n 2, 1) := by decide +kernel
theorem d_M_resolveOrder_74 : decode b_M_resolveOrder 74 = .ok (.iload 4, 2) := by decide +kernel
theorem d_M_resolveOrder_76 : decode b_M_resolveOrder 76 = .ok (.iconst (-1), 1) := by decide +kernel
theorem d_M_resolveOrder_77 : decode b_M_resolveOrder 77 = .ok (.if_icmp .ne 7, 3) := by decide +kernel
theorem d_M_resolveOrder_80 : decode b_M_resolveOrder 80 = .ok (.iconst (-1), 1) := by decide +kernel
theorem d_M_resolveOrder_81 : decode b_M_resolveOrder 81 = .ok (.goto 30, 3) := by decide +kernel
theorem d_M_resolveOrder_84 : decode b_M_resolveOrder 84 = .ok (.aload_n 0, 1) := by decide +kernel
theorem d_M_resolveOrder_85 : decode b_M_resolveOrder 85 = .ok (.aload_n 0, 1) := by decide +kernel
theorem d_M_resolveOrder_86 : decode b_M_resolveOrder 86 = .ok (.getfield 138, 3) := by decide +kernel
theorem d_M_resolveOrder_89 : decode b_M_resolveOrder 89 = .ok (.aload_n 0, 1) := by decide +kernel
theorem d_M_resolveOrder_90 : decode b_M_resolveOrder 90 = .ok (.getfield 90, 3) := by decide +kernel
theorem d_M_resolveOrder_93 : decode b_M_resolveOrder 93 = .ok (.iload_n 1, 1) := by decide +kernel
theorem d_M_resolveOrder_94 : decode b_M_resolveOrder 94 = .ok (.iaload, 1) := by decide +kernel
theorem d_M_resolveOrder_95 : decode b_M_resolveOrder 95 = .ok (.iload 4, 2) := by decide +kernel
theorem d_M_resolveOrder_97 : decode b_M_resolveOrder 97 = .ok (.iadd, 1) := by decide +kernel
theorem d_M_resolveOrder_98 : decode b_M_resolveOrder 98 = .ok (.iaload, 1) := by decide +kernel
theorem d_M_resolveOrder_99 : decode b_M_resolveOrder 99 = .ok (.aload_n 0, 1) := by decide +kernel
theorem d_M_resolveOrder_100 : decode b_M_resolveOrder 100 = .ok (.getfield 32, 3) := by decide +kernel
theorem d_M_resolveOrder_103 : decode b_M_resolveOrder 103 = .ok (.iload_n 3, 1) := by decide +kernel
theorem d_M_resolveOrder_104 : decode b_M_resolveOrder 104 = .ok (.iconst 2, 1) := by decide +kernel
theorem d_M_resolveOrder_105 : decode b_M_resolveOrder 105 = .ok (.iadd, 1) := by decide +kernel
theorem d_M_resolveOrder_106 : decode b_M_resolveOrder 106 = .ok (.laload, 1) := by decide +kernel
theorem d_M_resolveOrder_107 : decode b_M_resolveOrder 107 = .ok (.iconst 1, 1) := by decide +kernel
theorem d_M_resolveOrder_108 : decode b_M_resolveOrder 108 = .ok (.invokevirtual 404, 3) := by decide +kernel
theorem d_M_resolveOrder_111 : decode b_M_resolveOrder 111 = .ok (.iastore, 1) := by decide +kernel
theorem d_M_resolveOrder_112 : decode b_M_resolveOrder 112 = .ok (.aload_n 0, 1) := by decide +kernel
theorem d_M_resolveOrder_113 : decode b_M_resolveOrder 113 = .ok (.getfield 168, 3) := by decide +kernel
theorem d_M_resolveOrder_116 : decode b_M_resolveOrder 116 = .ok (.iload_n 2, 1) := by decide +kernel
theorem d_M_resolveOrder_117 : decode b_M_resolveOrder 117 = .ok (.iaload, 1) := by decide +kernel
theorem d_M_resolveOrder_118 : decode b_M_resolveOrder 118 = .ok (.iconst (-1), 1) := by decide +kernel
theorem d_M_resolveOrder_119 : decode b_M_resolveOrder 119 = .ok (.if_icmp .ne 14, 3) := by decide +kernel
theorem d_M_resolveOrder_122 : decode b_M_resolveOrder 122 = .ok (.aload_n 0, 1) := by decide +kernel
theorem d_M_resolveOrder_123 : decode b_M_resolveOrder 123 = .ok (.iconst 2, 1) := by decide +kernel
theorem d_M_resolveOrder_124 : decode b_M_resolveOrder 124 = .ok (.aload_n 0, 1) := by decide +kernel
theorem d_M_resolveOrder_125 : decode b_M_resolveOrder 125 = .ok (.getfield 29, 3) := by decide +kernel
theorem d_M_resolveOrder_128 : decode b_M_resolveOrder 128 = .ok (.iload_n 3, 1) := by decide +kernel
theorem d_M_resolveOrder_129 : decode b_M_resolveOrder 129 = .ok (.iaload, 1) := by decide +kernel
theorem d_M_resolveOrder_130 : decode b_M_resolveOrder 130 = .ok (.invokevirtual 313, 3) := by decide +kernel
theorem d_M_resolveOrder_133 : decode b_M_resolveOrder 133 = .ok (.iinc 2 1, 3) := by decide +kernel
theorem d_M_resolveOrder_136 : decode b_M_resolveOrder 136 = .ok (.goto (-104), 3) := by decide +kernel
theorem d_M_resolveOrder_139 : decode b_M_resolveOrder 139 = .ok (.return_, 1) := by decide +kernel
theorem d_M_partNamed_0 : decode b_M_partNamed 0 = .ok (.aload_n 0, 1) := by decide +kernel
theorem d_M_partNamed_1 : decode b_M_partNamed 1 = .ok (.getfield 138, 3) := by decide +kernel
theorem d_M_partNamed_4 : decode b_M_partNamed 4 = .ok (.iload_n 1, 1) := by decide +kernel
theorem d_M_partNamed_5 : decode b_M_partNamed 5 = .ok (.iaload, 1) := by decide +kernel
theorem d_M_partNamed_6 : decode b_M_partNamed 6 = .ok (.bipush 10, 2) := by decide +kernel
theorem d_M_partNamed_8 : decode b_M_partNamed 8 = .ok (.if_icmp .lt 17, 3) := by decide +kernel
theorem d_M_partNamed_11 : decode b_M_partNamed 11 = .ok (.iconst 1, 1) := by decide +kernel
theorem d_M_partNamed_12 : decode b_M_partNamed 12 = .ok (.aload_n 0, 1) := by decide +kernel
theorem d_M_partNamed_13 : decode b_M_partNamed 13 = .ok (.getfield 138, 3) := by decide +kernel
theorem d_M_partNamed_16 : decode b_M_partNamed 16 = .ok (.iload_n 1, 1) := by decide +kernel
theorem d_M_partNamed_17 : decode b_M_partNamed 17 = .ok (.iaload, 1) := by decide +kernel
theorem d_M_partNamed_18 : decode b_M_partNamed 18 = .ok (.bipush 10, 2) := by decide +kernel
theorem d_M_partNamed_20 : decode b_M_partNamed 20 = .ok (.isub, 1) := by decide +kernel
theorem d_M_partNamed_21 : decode b_M_partNamed 21 = .ok (.ishl, 1) := by decide +kernel
theorem d_M_partNamed_22 : decode b_M_partNamed 22 = .ok (.goto 4, 3) := by decide +kernel
theorem d_M_partNamed_25 : decode b_M_partNamed 25 = .ok (.iconst 0, 1) := by decide +kernel
theorem d_M_partNamed_26 : decode b_M_partNamed 26 = .ok (.ireturn, 1) := by decide +kernel
theorem d_M_named_0 : decode b_M_named 0 = .ok (.iconst 0, 1) := by decide +kernel
theorem d_M_named_1 : decode b_M_named 1 = .ok (.istore_n 3, 1) := by decide +kernel
theorem d_M_named_2 : decode b_M_named 2 = .ok (.iconst 0, 1) := by decide +kernel
theorem d_M_named_3 : decode b_M_named 3 = .ok (.istore 4, 2) := by decide +kernel
theorem d_M_named_5 : decode b_M_named 5 = .ok (.iload 4, 2) := by decide +kernel
theorem d_M_named_7 : decode b_M_named 7 = .ok (.aload_n 0, 1) := by decide +kernel
theorem d_M_named_8 : decode b_M_named 8 = .ok (.getfield 93, 3) := by decide +kernel
theorem d_M_named_11 : decode b_M_named 11 = .ok (.iload_n 1, 1) := by decide +kernel
theorem d_M_named_12 : decode b_M_named 12 = .ok (.iaload, 1) := by decide +kernel
theorem d_M_named_13 : decode b_M_named 13 = .ok (.if_icmp .ge 25, 3) := by decide +kernel
theorem d_M_named_16 : decode b_M_named 16 = .ok (.iload_n 3, 1) := by decide +kernel
theorem d_M_named_17 : decode b_M_named 17 = .ok (.aload_n 0, 1) := by decide +kernel
theorem d_M_named_18 : decode b_M_named 18 = .ok (.aload_n 0, 1) := by decide +kernel
theorem d_M_named_19 : decode b_M_named 19 = .ok (.getfield 90, 3) := by decide +kernel
theorem d_M_named_22 : decode b_M_named 22 = .ok (.iload_n 1, 1) := by decide +kernel
theorem d_M_named_23 : decode b_M_named 23 = .ok (.iaload, 1) := by decide +kernel
theorem d_M_named_24 : decode b_M_named 24 = .ok (.iload 4, 2) := by decide +kernel
theorem d_M_named_26 : decode b_M_named 26 = .ok (.iadd, 1) := by decide +kernel
theorem d_M_named_27 : decode b_M_named 27 = .ok (.invokevirtual 429, 3) := by decide +kernel
theorem d_M_named_30 : decode b_M_named 30 = .ok (.ior, 1) := by decide +kernel
theorem d_M_named_31 : decode b_M_named 31 = .ok (.istore_n 3, 1) := by decide +kernel
theorem d_M_named_32 : decode b_M_named 32 = .ok (.iinc 4 1, 3) := by decide +kernel
theorem d_M_named_35 : decode b_M_named 35 = .ok (.goto (-30), 3) := by decide +kernel
theorem d_M_named_38 : decode b_M_named 38 = .ok (.iconst 0, 1) := by decide +kernel
theorem d_M_named_39 : decode b_M_named 39 = .ok (.istore 4, 2) := by decide +kernel
theorem d_M_named_41 : decode b_M_named 41 = .ok (.iload_n 2, 1) := by decide +kernel
theorem d_M_named_42 : decode b_M_named 42 = .ok (.ifCond .eq 59, 3) := by decide +kernel
theorem d_M_named_45 : decode b_M_named 45 = .ok (.iload 4, 2) := by decide +kernel
theorem d_M_named_47 : decode b_M_named 47 = .ok (.aload_n 0, 1) := by decide +kernel
theorem d_M_named_48 : decode b_M_named 48 = .ok (.getfield 96, 3) := by decide +kernel
theorem d_M_named_51 : decode b_M_named 51 = .ok (.iload_n 1, 1) := by decide +kernel
theorem d_M_named_52 : decode b_M_named 52 = .ok (.iaload, 1) := by decide +kernel
theorem d_M_named_53 : decode b_M_named 53 = .ok (.if_icmp .ge 48, 3) := by decide +kernel
theorem d_M_named_56 : decode b_M_named 56 = .ok (.aload_n 0, 1) := by decide +kernel
theorem d_M_named_57 : decode b_M_named 57 = .ok (.getfield 99, 3) := by decide +kernel
theorem d_M_named_60 : decode b_M_named 60 = .ok (.bipush 6, 2) := by decide +kernel
theorem d_M_named_62 : decode b_M_named 62 = .ok (.iload_n 1, 1) := by decide +kernel
theorem d_M_named_63 : decode b_M_named 63 = .ok (.imul, 1) := by decide +kernel
theorem d_M_named_64 : decode b_M_named 64 = .ok (.iload 4, 2) := by decide +kernel
theorem d_M_named_66 : decode b_M_named 66 = .ok (.iadd, 1) := by decide +kernel
theorem d_M_named_67 : decode b_M_named 67 = .ok (.iaload, 1) := by decide +kernel
theorem d_M_named_68 : decode b_M_named 68 = .ok (.istore 5, 2) := by decide +kernel
theorem d_M_named_70 : decode b_M_named 70 = .ok (.aload_n 0, 1) := by decide +kernel
theorem d_M_named_71 : decode b_M_named 71 = .ok (.getfield 141, 3) := by decide +kernel
theorem d_M_named_74 : decode b_M_named 74 = .ok (.iload 5, 2) := by decide +kernel
theorem d_M_named_76 : decode b_M_named 76 = .ok (.iaload, 1) := by decide +kernel
theorem d_M_named_77 : decode b_M_named 77 = .ok (.iconst 2, 1) := by decide +kernel
theorem d_M_named_78 : decode b_M_named 78 = .ok (.if_icmp .ne 17, 3) := by decide +kernel
theorem d_M_named_81 : decode b_M_named 81 = .ok (.iload_n 3, 1) := by decide +kernel
theorem d_M_named_82 : decode b_M_named 82 = .ok (.aload_n 0, 1) := by decide +kernel
theorem d_M_named_83 : decode b_M_named 83 = .ok (.aload_n 0, 1) := by decide +kernel
theorem d_M_named_84 : decode b_M_named 84 = .ok (.getfield 153, 3) := by decide +kernel
theorem d_M_named_87 : decode b_M_named 87 = .ok (.iload 5, 2) := by decide +kernel
theorem d_M_named_89 : decode b_M_named 89 = .ok (.iaload, 1) := by decide +kernel
theorem d_M_named_90 : decode b_M_named 90 = .ok (.invokevirtual 429, 3) := by decide +kernel
theorem d_M_named_93 : decode b_M_named 93 = .ok (.ior, 1) := by decide +kernel
theorem d_M_named_94 : decode b_M_named 94 = .ok (.istore_n 3, 1) := by decide +kernel
theorem d_M_named_95 : decode b_M_named 95 = .ok (.iinc 4 1, 3) := by decide +kernel
theorem d_M_named_98 : decode b_M_named 98 = .ok (.goto (-57), 3) := by decide +kernel
theorem d_M_named_101 : decode b_M_named 101 = .ok (.iload_n 3, 1) := by decide +kernel
theorem d_M_named_102 : decode b_M_named 102 = .ok (.ireturn, 1) := by decide +kernel
theorem d_M_together_0 : decode b_M_together 0 = .ok (.iconst 1, 1) := by decide +kernel
theorem d_M_together_1 : decode b_M_together 1 = .ok (.iload_n 1, 1) := by decide +kernel
theorem d_M_together_2 : decode b_M_together 2 = .ok (.ishl, 1) := by decide +kernel
theorem d_M_together_3 : decode b_M_together 3 = .ok (.istore_n 2, 1) := by decide +kernel
theorem d_M_together_4 : decode b_M_together 4 = .ok (.iconst 0, 1) := by decide +kernel
theorem d_M_together_5 : decode b_M_together 5 = .ok (.istore_n 3, 1) := by decide +kernel
theorem d_M_together_6 : decode b_M_together 6 = .ok (.iload_n 3, 1) := by decide +kernel
theorem d_M_together_7 : decode b_M_together 7 = .ok (.aload_n 0, 1) := by decide +kernel
theorem d_M_together_8 : decode b_M_together 8 = .ok (.getfield 330, 3) := by decide +kernel
theorem d_M_together_11 : decode b_M_together 11 = .ok (.if_icmp .ge 43, 3) := by decide +kernel
theorem d_M_together_14 : decode b_M_together 14 = .ok (.aload_n 0, 1) := by decide +kernel
theorem d_M_together_15 : decode b_M_together 15 = .ok (.getfield 174, 3) := by decide +kernel
theorem d_M_together_18 : decode b_M_together 18 = .ok (.iload_n 1, 1) := by decide +kernel
theorem d_M_together_19 : decode b_M_together 19 = .ok (.iaload, 1) := by decide +kernel
theorem d_M_together_20 : decode b_M_together 20 = .ok (.iload_n 3, 1) := by decide +kernel
theorem d_M_together_21 : decode b_M_together 21 = .ok (.ishr, 1) := by decide +kernel
theorem d_M_together_22 : decode b_M_together 22 = .ok (.iconst 1, 1) := by decide +kernel
theorem d_M_together_23 : decode b_M_together 23 = .ok (.iand, 1) := by decide +kernel
theorem d_M_together_24 : decode b_M_together 24 = .ok (.iconst 1, 1) := by decide +kernel
theorem d_M_together_25 : decode b_M_together 25 = .ok (.if_icmp .ne 23, 3) := by decide +kernel
theorem d_M_together_28 : decode b_M_together 28 = .ok (.aload_n 0, 1) := by decide +kernel
theorem d_M_together_29 : decode b_M_together 29 = .ok (.getfield 174, 3) := by decide +kernel
theorem d_M_together_32 : decode b_M_together 32 = .ok (.iload_n 3, 1) := by decide +kernel
theorem d_M_together_33 : decode b_M_together 33 = .ok (.iaload, 1) := by decide +kernel
theorem d_M_together_34 : decode b_M_together 34 = .ok (.iload_n 1, 1) := by decide +kernel
theorem d_M_together_35 : decode b_M_together 35 = .ok (.ishr, 1) := by decide +kernel
theorem d_M_together_36 : decode b_M_together 36 = .ok (.iconst 1, 1) := by decide +kernel
theorem d_M_together_37 : decode b_M_together 37 = .ok (.iand, 1) := by decide +kernel
theorem d_M_together_38 : decode b_M_together 38 = .ok (.iconst 1, 1) := by decide +kernel
theorem d_M_together_39 : decode b_M_together 39 = .ok (.if_icmp .ne 9, 3) := by decide +kernel
theorem d_M_together_42 : decode b_M_together 42 = .ok (.iload_n 2, 1) := by decide +kernel
theorem d_M_together_43 : decode b_M_together 43 = .ok (.iconst 1, 1) := by decide +kernel
theorem d_M_together_44 : decode b_M_together 44 = .ok (.iload_n 3, 1) := by decide +kernel
theorem d_M_together_45 : decode b_M_together 45 = .ok (.ishl, 1) := by decide +kernel
theorem d_M_together_46 : decode b_M_together 46 = .ok (.ior, 1) := by decide +kernel
theorem d_M_together_47 : decode b_M_together 47 = .ok (.istore_n 2, 1) := by decide +kernel
theorem d_M_together_48 : decode b_M_together 48 = .ok (.iinc 3 1, 3) := by decide +kernel
theorem d_M_together_51 : decode b_M_together 51 = .ok (.goto (-45), 3) := by decide +kernel
theorem d_M_together_54 : decode b_M_together 54 = .ok (.iload_n 2, 1) := by decide +kernel
theorem d_M_together_55 : decode b_M_together 55 = .ok (.ireturn, 1) := by decide +kernel
theorem d_M_findComponents_0 : decode b_M_findComponents 0 = .ok (.iconst 0, 1) := by decide +kernel
theorem d_M_findComponents_1 : decode b_M_findComponents 1 = .ok (.istore_n 1, 1) := by decide +kernel
theorem d_M_findComponents_2 : decode b_M_findComponents 2 = .ok (.iload_n 1, 1) := by decide +kernel
theorem d_M_findComponents_3 : decode b_M_findComponents 3 = .ok (.aload_n 0, 1) := by decide +kernel
theorem d_M_findComponents_4 : decode b_M_findComponents 4 = .ok (.getfield 330, 3) := by decide +kernel
theorem d_M_findComponents_7 : decode b_M_findComponents 7 = .ok (.if_icmp .ge 75, 3) := by decide +kernel
theorem d_M_findComponents_10 : decode b_M_findComponents 10 = .ok (.aload_n 0, 1) := by decide +kernel
theorem d_M_findComponents_11 : decode b_M_findComponents 11 = .ok (.getfield 171, 3) := by decide +kernel
theorem d_M_findComponents_14 : decode b_M_findComponents 14 = .ok (.iload_n 1, 1) := by decide +kernel
theorem d_M_findComponents_15 : decode b_M_findComponents 15 = .ok (.iconst 0, 1) := by decide +kernel
theorem d_M_findComponents_16 : decode b_M_findComponents 16 = .ok (.iastore, 1) := by decide +kernel
theorem d_M_findComponents_17 : decode b_M_findComponents 17 = .ok (.iconst 0, 1) := by decide +kernel
theorem d_M_findComponents_18 : decode b_M_findComponents 18 = .ok (.istore_n 2, 1) := by decide +kernel
theorem d_M_findComponents_19 : decode b_M_findComponents 19 = .ok (.iload_n 2, 1) := by decide +kernel
theorem d_M_findComponents_20 : decode b_M_findComponents 20 = .ok (.aload_n 0, 1) := by decide +kernel
theorem d_M_findComponents_21 : decode b_M_findComponents 21 = .ok (.getfield 75, 3) := by decide +kernel
theorem d_M_findComponents_24 : decode b_M_findComponents 24 = .ok (.iload_n 1, 1) := by decide +kernel
theorem d_M_findComponents_25 : decode b_M_findComponents 25 = .ok (.iaload, 1) := by decide +kernel
theorem d_M_findComponents_26 : decode b_M_findComponents 26 = .ok (.if_icmp .ge 31, 3) := by decide +kernel
theorem d_M_findComponents_29 : decode b_M_findComponents 29 = .ok (.aload_n 0, 1) := by decide +kernel
theorem d_M_findComponents_30 : decode b_M_findComponents 30 = .ok (.getfield 171, 3) := by decide +kernel
theorem d_M_findComponents_33 : decode b_M_findComponents 33 = .ok (.iload_n 1, 1) := by decide +kernel
theorem d_M_findComponents_34 : decode b_M_findComponents 34 = .ok (.dup2, 1) := by decide +kernel
theorem d_M_findComponents_35 : decode b_M_findComponents 35 = .ok (.iaload, 1) := by decide +kernel
theorem d_M_findComponents_36 : decode b_M_findComponents 36 = .ok (.aload_n 0, 1) := by decide +kernel
theorem d_M_findComponents_37 : decode b_M_findComponents 37 = .ok (.aload_n 0, 1) := by decide +kernel
theorem d_M_findComponents_38 : decode b_M_findComponents 38 = .ok (.getfield 72, 3) := by decide +kernel
theorem d_M_findComponents_41 : decode b_M_findComponents 41 = .ok (.iload_n 1, 1) := by decide +kernel
theorem d_M_findComponents_42 : decode b_M_findComponents 42 = .ok (.iaload, 1) := by decide +kernel
theorem d_M_findComponents_43 : decode b_M_findComponents 43 = .ok (.iload_n 2, 1) := by decide +kernel
theorem d_M_findComponents_44 : decode b_M_findComponents 44 = .ok (.iadd, 1) := by decide +kernel
theorem d_M_findComponents_45 : decode b_M_findComponents 45 = .ok (.iconst 1, 1) := by decide +kernel
theorem d_M_findComponents_46 : decode b_M_findComponents 46 = .ok (.invokevirtual 432, 3) := by decide +kernel
theorem d_M_findComponents_49 : decode b_M_findComponents 49 = .ok (.ior, 1) := by decide +kernel
theorem d_M_findComponents_50 : decode b_M_findComponents 50 = .ok (.iastore, 1) := by decide +kernel
theorem d_M_findComponents_51 : decode b_M_findComponents 51 = .ok (.iinc 2 1, 3) := by decide +kernel
theorem d_M_findComponents_54 : decode b_M_findComponents 54 = .ok (.goto (-35), 3) := by decide +kernel
theorem d_M_findComponents_57 : decode b_M_findComponents 57 = .ok (.aload_n 0, 1) := by decide +kernel
theorem d_M_findComponents_58 : decode b_M_findComponents 58 = .ok (.getfield 174, 3) := by decide +kernel
theorem d_M_findComponents_61 : decode b_M_findComponents 61 = .ok (.iload_n 1, 1) := by decide +kernel
theorem d_M_findComponents_62 : decode b_M_findComponents 62 = .ok (.aload_n 0, 1) := by decide +kernel
theorem d_M_findComponents_63 : decode b_M_findComponents 63 = .ok (.getfield 171, 3) := by decide +kernel
theorem d_M_findComponents_66 : decode b_M_findComponents 66 = .ok (.iload_n 1, 1) := by decide +kernel
theorem d_M_findComponents_67 : decode b_M_findComponents 67 = .ok (.iaload, 1) := by decide +kernel
theorem d_M_findComponents_68 : decode b_M_findComponents 68 = .ok (.iastore, 1) := by decide +kernel
theorem d_M_findComponents_69 : decode b_M_findComponents 69 = .ok (.aload_n 0, 1) := by decide +kernel
theorem d_M_findComponents_70 : decode b_M_findComponents 70 = .ok (.getfield 177, 3) := by decide +kernel
theorem d_M_findComponents_73 : decode b_M_findComponents 73 = .ok (.iload_n 1, 1) := by decide +kernel
theorem d_M_findComponents_74 : decode b_M_findComponents 74 = .ok (.iconst (-1), 1) := by decide +kernel
theorem d_M_findComponents_75 : decode b_M_findComponents 75 = .ok (.iastore, 1) := by decide +kernel
theorem d_M_findComponents_76 : decode b_M_findComponents 76 = .ok (.iinc 1 1, 3) := by decide +kernel
theorem d_M_findComponents_79 : decode b_M_findComponents 79 = .ok (.goto (-77), 3) := by decide +kernel
theorem d_M_findComponents_82 : decode b_M_findComponents 82 = .ok (.iconst 0, 1) := by decide +kernel
theorem d_M_findComponents_83 : decode b_M_findComponents 83 = .ok (.istore_n 1, 1) := by decide +kernel
theorem d_M_findComponents_84 : decode b_M_findComponents 84 = .ok (.iload_n 1, 1) := by decide +kernel
theorem d_M_findComponents_85 : decode b_M_findComponents 85 = .ok (.iconst 4, 1) := by decide +kernel
theorem d_M_findComponents_86 : decode b_M_findComponents 86 = .ok (.if_icmp .ge 70, 3) := by decide +kernel
theorem d_M_findComponents_89 : decode b_M_findComponents 89 = .ok (.iconst 0, 1) := by decide +kernel
theorem d_M_findComponents_90 : decode b_M_findComponents 90 = .ok (.istore_n 2, 1) := by decide +kernel
theorem d_M_findComponents_91 : decode b_M_findComponents 91 = .ok (.iload_n 2, 1) := by decide +kernel
theorem d_M_findComponents_92 : decode b_M_findComponents 92 = .ok (.aload_n 0, 1) := by decide +kernel
theorem d_M_findComponents_93 : decode b_M_findComponents 93 = .ok (.getfield 330, 3) := by decide +kernel
theorem d_M_findComponents_96 : decode b_M_findComponents 96 = .ok (.if_icmp .ge 54, 3) := by decide +kernel
theorem d_M_findComponents_99 : decode b_M_findComponents 99 = .ok (.iconst 0, 1) := by decide +kernel
theorem d_M_findComponents_100 : decode b_M_findComponents 100 = .ok (.istore_n 3, 1) := by decide +kernel
theorem d_M_findComponents_101 : decode b_M_findComponents 101 = .ok (.iload_n 3, 1) := by decide +kernel
theorem d_M_findComponents_102 : decode b_M_findComponents 102 = .ok (.aload_n 0, 1) := by decide +kernel
theorem d_M_findComponents_103 : decode b_M_findComponents 103 = .ok (.getfield 330, 3) := by decide +kernel
theorem d_M_findComponents_106 : decode b_M_findComponents 106 = .ok (.if_icmp .ge 38, 3) := by decide +kernel
theorem d_M_findComponents_109 : decode b_M_findComponents 109 = .ok (.aload_n 0, 1) := by decide +kernel
theorem d_M_findComponents_110 : decode b_M_findComponents 110 = .ok (.getfield 174, 3) := by decide +kernel
theorem d_M_findComponents_113 : decode b_M_findComponents 113 = .ok (.iload_n 2, 1) := by decide +kernel
theorem d_M_findComponents_114 : decode b_M_findComponents 114 = .ok (.iaload, 1) := by decide +kernel
theorem d_M_findComponents_115 : decode b_M_findComponents 115 = .ok (.iload_n 3, 1) := by decide +kernel
theorem d_M_findComponents_116 : decode b_M_findComponents 116 = .ok (.ishr, 1) := by decide +kernel
theorem d_M_findComponents_117 : decode b_M_findComponents 117 = .ok (.iconst 1, 1) := by decide +kernel
theorem d_M_findComponents_118 : decode b_M_findComponents 118 = .ok (.iand, 1) := by decide +kernel
theorem d_M_findComponents_119 : decode b_M_findComponents 119 = .ok (.iconst 1, 1) := by decide +kernel
theorem d_M_findComponents_120 : decode b_M_findComponents 120 = .ok (.if_icmp .ne 18, 3) := by decide +kernel
theorem d_M_findComponents_123 : decode b_M_findComponents 123 = .ok (.aload_n 0, 1) := by decide +kernel
theorem d_M_findComponents_124 : decode b_M_findComponents 124 = .ok (.getfield 174, 3) := by decide +kernel
theorem d_M_findComponents_127 : decode b_M_findComponents 127 = .ok (.iload_n 2, 1) := by decide +kernel
theorem d_M_findComponents_128 : decode b_M_findComponents 128 = .ok (.dup2, 1) := by decide +kernel
theorem d_M_findComponents_129 : decode b_M_findComponents 129 = .ok (.iaload, 1) := by decide +kernel
theorem d_M_findComponents_130 : decode b_M_findComponents 130 = .ok (.aload_n 0, 1) := by decide +kernel
theorem d_M_findComponents_131 : decode b_M_findComponents 131 = .ok (.getfield 174, 3) := by decide +kernel
theorem d_M_findComponents_134 : decode b_M_findComponents 134 = .ok (.iload_n 3, 1) := by decide +kernel
theorem d_M_findComponents_135 : decode b_M_findComponents 135 = .ok (.iaload, 1) := by decide +kernel
theorem d_M_findComponents_136 : decode b_M_findComponents 136 = .ok (.ior, 1) := by decide +kernel
theorem d_M_findComponents_137 : decode b_M_findComponents 137 = .ok (.iastore, 1) := by decide +kernel
theorem d_M_findComponents_138 : decode b_M_findComponents 138 = .ok (.iinc 3 1, 3) := by decide +kernel
theorem d_M_findComponents_141 : decode b_M_findComponents 141 = .ok (.goto (-40), 3) := by decide +kernel
theorem d_M_findComponents_144 : decode b_M_findComponents 144 = .ok (.iinc 2 1, 3) := by decide +kernel
theorem d_M_findComponents_147 : decode b_M_findComponents 147 = .ok (.goto (-56), 3) := by decide +kernel
theorem d_M_findComponents_150 : decode b_M_findComponents 150 = .ok (.iinc 1 1, 3) := by decide +kernel
theorem d_M_findComponents_153 : decode b_M_findComponents 153 = .ok (.goto (-69), 3) := by decide +kernel
theorem d_M_findComponents_156 : decode b_M_findComponents 156 = .ok (.aload_n 0, 1) := by decide +kernel
theorem d_M_findComponents_157 : decode b_M_findComponents 157 = .ok (.iconst 0, 1) := by decide +kernel
theorem d_M_findComponents_158 : decode b_M_findComponents 158 = .ok (.putfield 436, 3) := by decide +kernel
theorem d_M_findComponents_161 : decode b_M_findComponents 161 = .ok (.iconst 0, 1) := by decide +kernel
theorem d_M_findComponents_162 : decode b_M_findComponents 162 = .ok (.istore_n 1, 1) := by decide +kernel
theorem d_M_findComponents_163 : decode b_M_findComponents 163 = .ok (.iload_n 1, 1) := by decide +kernel
theorem d_M_findComponents_164 : decode b_M_findComponents 164 = .ok (.iconst 1, 1) := by decide +kernel
theorem d_M_findComponents_165 : decode b_M_findComponents 165 = .ok (.aload_n 0, 1) := by decide +kernel
theorem d_M_findComponents_166 : decode b_M_findComponents 166 = .ok (.getfield 330, 3) := by decide +kernel
theorem d_M_findComponents_169 : decode b_M_findComponents 169 = .ok (.ishl, 1) := by decide +kernel
theorem d_M_findComponents_170 : decode b_M_findComponents 170 = .ok (.iconst 1, 1) := by decide +kernel
theorem d_M_findComponents_171 : decode b_M_findComponents 171 = .ok (.isub, 1) := by decide +kernel
theorem d_M_findComponents_172 : decode b_M_findComponents 172 = .ok (.if_icmp .eq 115, 3) := by decide +kernel
theorem d_M_findComponents_175 : decode b_M_findComponents 175 = .ok (.iconst (-1), 1) := by decide +kernel
theorem d_M_findComponents_176 : decode b_M_findComponents 176 = .ok (.istore_n 2, 1) := by decide +kernel
theorem d_M_findComponents_177 : decode b_M_findComponents 177 = .ok (.aload_n 0, 1) := by decide +kernel
theorem d_M_findComponents_178 : decode b_M_findComponents 178 = .ok (.getfield 330, 3) := by decide +kernel
theorem d_M_findComponents_181 : decode b_M_findComponents 181 = .ok (.iconst 1, 1) := by decide +kernel
theorem d_M_findComponents_182 : decode b_M_findComponents 182 = .ok (.isub, 1) := by decide +kernel
theorem d_M_findComponents_183 : decode b_M_findComponents 183 = .ok (.istore_n 3, 1) := by decide +kernel
theorem d_M_findComponents_184 : decode b_M_findComponents 184 = .ok (.iload_n 3, 1) := by decide +kernel
theorem d_M_findComponents_185 : decode b_M_findComponents 185 = .ok (.ifCond .lt 42, 3) := by decide +kernel
theorem d_M_findComponents_188 : decode b_M_findComponents 188 = .ok (.aload_n 0, 1) := by decide +kernel
theorem d_M_findComponents_189 : decode b_M_findComponents 189 = .ok (.getfield 177, 3) := by decide +kernel
theorem d_M_findComponents_192 : decode b_M_findComponents 192 = .ok (.iload_n 3, 1) := by decide +kernel
theorem d_M_findComponents_193 : decode b_M_findComponents 193 = .ok (.iaload, 1) := by decide +kernel
theorem d_M_findComponents_194 : decode b_M_findComponents 194 = .ok (.iconst (-1), 1) := by decide +kernel
theorem d_M_findComponents_195 : decode b_M_findComponents 195 = .ok (.if_icmp .ne 26, 3) := by decide +kernel
theorem d_M_findComponents_198 : decode b_M_findComponents 198 = .ok (.aload_n 0, 1) := by decide +kernel
theorem d_M_findComponents_199 : decode b_M_findComponents 199 = .ok (.getfield 174, 3) := by decide +kernel
theorem d_M_findComponents_202 : decode b_M_findComponents 202 = .ok (.iload_n 3, 1) := by decide +kernel
theorem d_M_findComponents_203 : decode b_M_findComponents 203 = .ok (.iaload, 1) := by decide +kernel
theorem d_M_findComponents_204 : decode b_M_findComponents 204 = .ok (.iload_n 1, 1) := by decide +kernel
theorem d_M_findComponents_205 : decode b_M_findComponents 205 = .ok (.iconst (-1), 1) := by decide +kernel
theorem d_M_findComponents_206 : decode b_M_findComponents 206 = .ok (.ixor, 1) := by decide +kernel
theorem d_M_findComponents_207 : decode b_M_findComponents 207 = .ok (.iand, 1) := by decide +kernel
theorem d_M_findComponents_208 : decode b_M_findComponents 208 = .ok (.aload_n 0, 1) := by decide +kernel
theorem d_M_findComponents_209 : decode b_M_findComponents 209 = .ok (.iload_n 3, 1) := by decide +kernel
theorem d_M_findComponents_210 : decode b_M_findComponents 210 = .ok (.invokevirtual 439, 3) := by decide +kernel
theorem d_M_findComponents_213 : decode b_M_findComponents 213 = .ok (.iconst (-1), 1) := by decide +kernel
theorem d_M_findComponents_214 : decode b_M_findComponents 214 = .ok (.ixor, 1) := by decide +kernel
theorem d_M_findComponents_215 : decode b_M_findComponents 215 = .ok (.iand, 1) := by decide +kernel
theorem d_M_findComponents_216 : decode b_M_findComponents 216 = .ok (.ifCond .ne 5, 3) := by decide +kernel
theorem d_M_findComponents_219 : decode b_M_findComponents 219 = .ok (.iload_n 3, 1) := by decide +kernel
theorem d_M_findComponents_220 : decode b_M_findComponents 220 = .ok (.istore_n 2, 1) := by decide +kernel
theorem d_M_findComponents_221 : decode b_M_findComponents 221 = .ok (.iinc 3 (-1), 3) := by decide +kernel
theorem d_M_findComponents_224 : decode b_M_findComponents 224 = .ok (.goto (-40), 3) := by decide +kernel
theorem d_M_findComponents_227 : decode b_M_findComponents 227 = .ok (.iconst 0, 1) := by decide +kernel
theorem d_M_findComponents_228 : decode b_M_findComponents 228 = .ok (.istore_n 3, 1) := by decide +kernel
theorem d_M_findComponents_229 : decode b_M_findComponents 229 = .ok (.iload_n 3, 1) := by decide +kernel
theorem d_M_findComponents_230 : decode b_M_findComponents 230 = .ok (.aload_n 0, 1) := by decide +kernel
theorem d_M_findComponents_231 : decode b_M_findComponents 231 = .ok (.getfield 330, 3) := by decide +kernel
theorem d_M_findComponents_234 : decode b_M_findComponents 234 = .ok (.if_icmp .ge 32, 3) := by decide +kernel
theorem d_M_findComponents_237 : decode b_M_findComponents 237 = .ok (.aload_n 0, 1) := by decide +kernel
