theorem d_M_compares_96 : decode b_M_compares 96 = .ok (.iaload, 1) := by decide +kernel
theorem d_M_compares_97 : decode b_M_compares 97 = .ok (.bipush 32, 2) := by decide +kernel
theorem d_M_compares_99 : decode b_M_compares 99 = .ok (.if_icmp .ne 16, 3) := by decide +kernel
theorem d_M_compares_102 : decode b_M_compares 102 = .ok (.lload_n 2, 1) := by decide +kernel
theorem d_M_compares_103 : decode b_M_compares 103 = .ok (.lload 4, 2) := by decide +kernel
theorem d_M_compares_105 : decode b_M_compares 105 = .ok (.lcmp, 1) := by decide +kernel
theorem d_M_compares_106 : decode b_M_compares 106 = .ok (.ifCond .eq 7, 3) := by decide +kernel
theorem d_M_compares_109 : decode b_M_compares 109 = .ok (.iconst 1, 1) := by decide +kernel
theorem d_M_compares_110 : decode b_M_compares 110 = .ok (.goto 4, 3) := by decide +kernel
theorem d_M_compares_113 : decode b_M_compares 113 = .ok (.iconst 0, 1) := by decide +kernel
theorem d_M_compares_114 : decode b_M_compares 114 = .ok (.ireturn, 1) := by decide +kernel
theorem d_M_compares_115 : decode b_M_compares 115 = .ok (.aload_n 0, 1) := by decide +kernel
theorem d_M_compares_116 : decode b_M_compares 116 = .ok (.getfield 144, 3) := by decide +kernel
theorem d_M_compares_119 : decode b_M_compares 119 = .ok (.iload_n 1, 1) := by decide +kernel
theorem d_M_compares_120 : decode b_M_compares 120 = .ok (.iaload, 1) := by decide +kernel
theorem d_M_compares_121 : decode b_M_compares 121 = .ok (.sipush 160, 3) := by decide +kernel
theorem d_M_compares_124 : decode b_M_compares 124 = .ok (.if_icmp .ne 18, 3) := by decide +kernel
theorem d_M_compares_127 : decode b_M_compares 127 = .ok (.lload_n 2, 1) := by decide +kernel
theorem d_M_compares_128 : decode b_M_compares 128 = .ok (.lload 4, 2) := by decide +kernel
theorem d_M_compares_130 : decode b_M_compares 130 = .ok (.lcmp, 1) := by decide +kernel
theorem d_M_compares_131 : decode b_M_compares 131 = .ok (.ifCond .ge 7, 3) := by decide +kernel
theorem d_M_compares_134 : decode b_M_compares 134 = .ok (.iconst 1, 1) := by decide +kernel
theorem d_M_compares_135 : decode b_M_compares 135 = .ok (.goto 19, 3) := by decide +kernel
theorem d_M_compares_138 : decode b_M_compares 138 = .ok (.iconst 0, 1) := by decide +kernel
theorem d_M_compares_139 : decode b_M_compares 139 = .ok (.goto 15, 3) := by decide +kernel
theorem d_M_compares_142 : decode b_M_compares 142 = .ok (.lload_n 2, 1) := by decide +kernel
theorem d_M_compares_143 : decode b_M_compares 143 = .ok (.lload 4, 2) := by decide +kernel
theorem d_M_compares_145 : decode b_M_compares 145 = .ok (.lcmp, 1) := by decide +kernel
theorem d_M_compares_146 : decode b_M_compares 146 = .ok (.ifCond .le 7, 3) := by decide +kernel
theorem d_M_compares_149 : decode b_M_compares 149 = .ok (.iconst 1, 1) := by decide +kernel
theorem d_M_compares_150 : decode b_M_compares 150 = .ok (.goto 4, 3) := by decide +kernel
theorem d_M_compares_153 : decode b_M_compares 153 = .ok (.iconst 0, 1) := by decide +kernel
theorem d_M_compares_154 : decode b_M_compares 154 = .ok (.ireturn, 1) := by decide +kernel
theorem d_M_hasNone_0 : decode b_M_hasNone 0 = .ok (.aload_n 0, 1) := by decide +kernel
theorem d_M_hasNone_1 : decode b_M_hasNone 1 = .ok (.getfield 138, 3) := by decide +kernel
theorem d_M_hasNone_4 : decode b_M_hasNone 4 = .ok (.aload_n 0, 1) := by decide +kernel
theorem d_M_hasNone_5 : decode b_M_hasNone 5 = .ok (.getfield 153, 3) := by decide +kernel
theorem d_M_hasNone_8 : decode b_M_hasNone 8 = .ok (.iload_n 1, 1) := by decide +kernel
theorem d_M_hasNone_9 : decode b_M_hasNone 9 = .ok (.iaload, 1) := by decide +kernel
theorem d_M_hasNone_10 : decode b_M_hasNone 10 = .ok (.iaload, 1) := by decide +kernel
theorem d_M_hasNone_11 : decode b_M_hasNone 11 = .ok (.istore_n 2, 1) := by decide +kernel
theorem d_M_hasNone_12 : decode b_M_hasNone 12 = .ok (.iload_n 2, 1) := by decide +kernel
theorem d_M_hasNone_13 : decode b_M_hasNone 13 = .ok (.bipush 10, 2) := by decide +kernel
theorem d_M_hasNone_15 : decode b_M_hasNone 15 = .ok (.if_icmp .ge 12, 3) := by decide +kernel
theorem d_M_hasNone_18 : decode b_M_hasNone 18 = .ok (.aload_n 0, 1) := by decide +kernel
theorem d_M_hasNone_19 : decode b_M_hasNone 19 = .ok (.getfield 13, 3) := by decide +kernel
theorem d_M_hasNone_22 : decode b_M_hasNone 22 = .ok (.iload_n 2, 1) := by decide +kernel
theorem d_M_hasNone_23 : decode b_M_hasNone 23 = .ok (.iaload, 1) := by decide +kernel
theorem d_M_hasNone_24 : decode b_M_hasNone 24 = .ok (.goto 7, 3) := by decide +kernel
theorem d_M_hasNone_27 : decode b_M_hasNone 27 = .ok (.aload_n 0, 1) := by decide +kernel
theorem d_M_hasNone_28 : decode b_M_hasNone 28 = .ok (.getfield 489, 3) := by decide +kernel
theorem d_M_hasNone_31 : decode b_M_hasNone 31 = .ok (.istore_n 3, 1) := by decide +kernel
theorem d_M_hasNone_32 : decode b_M_hasNone 32 = .ok (.iconst 0, 1) := by decide +kernel
theorem d_M_hasNone_33 : decode b_M_hasNone 33 = .ok (.istore 4, 2) := by decide +kernel
theorem d_M_hasNone_35 : decode b_M_hasNone 35 = .ok (.iload 4, 2) := by decide +kernel
theorem d_M_hasNone_37 : decode b_M_hasNone 37 = .ok (.iload_n 3, 1) := by decide +kernel
theorem d_M_hasNone_38 : decode b_M_hasNone 38 = .ok (.if_icmp .ge 111, 3) := by decide +kernel
theorem d_M_hasNone_41 : decode b_M_hasNone 41 = .ok (.iload_n 2, 1) := by decide +kernel
theorem d_M_hasNone_42 : decode b_M_hasNone 42 = .ok (.bipush 10, 2) := by decide +kernel
theorem d_M_hasNone_44 : decode b_M_hasNone 44 = .ok (.if_icmp .lt 20, 3) := by decide +kernel
theorem d_M_hasNone_47 : decode b_M_hasNone 47 = .ok (.aload_n 0, 1) := by decide +kernel
theorem d_M_hasNone_48 : decode b_M_hasNone 48 = .ok (.getfield 180, 3) := by decide +kernel
theorem d_M_hasNone_51 : decode b_M_hasNone 51 = .ok (.iload 4, 2) := by decide +kernel
theorem d_M_hasNone_53 : decode b_M_hasNone 53 = .ok (.iaload, 1) := by decide +kernel
theorem d_M_hasNone_54 : decode b_M_hasNone 54 = .ok (.iload_n 2, 1) := by decide +kernel
theorem d_M_hasNone_55 : decode b_M_hasNone 55 = .ok (.bipush 10, 2) := by decide +kernel
theorem d_M_hasNone_57 : decode b_M_hasNone 57 = .ok (.isub, 1) := by decide +kernel
theorem d_M_hasNone_58 : decode b_M_hasNone 58 = .ok (.if_icmp .eq 6, 3) := by decide +kernel
theorem d_M_hasNone_61 : decode b_M_hasNone 61 = .ok (.goto 82, 3) := by decide +kernel
theorem d_M_hasNone_64 : decode b_M_hasNone 64 = .ok (.aload_n 0, 1) := by decide +kernel
theorem d_M_hasNone_65 : decode b_M_hasNone 65 = .ok (.getfield 225, 3) := by decide +kernel
theorem d_M_hasNone_68 : decode b_M_hasNone 68 = .ok (.iconst 3, 1) := by decide +kernel
theorem d_M_hasNone_69 : decode b_M_hasNone 69 = .ok (.iload_n 2, 1) := by decide +kernel
theorem d_M_hasNone_70 : decode b_M_hasNone 70 = .ok (.bipush 10, 2) := by decide +kernel
theorem d_M_hasNone_72 : decode b_M_hasNone 72 = .ok (.if_icmp .ge 13, 3) := by decide +kernel
theorem d_M_hasNone_75 : decode b_M_hasNone 75 = .ok (.bipush 16, 2) := by decide +kernel
theorem d_M_hasNone_77 : decode b_M_hasNone 77 = .ok (.iload_n 2, 1) := by decide +kernel
theorem d_M_hasNone_78 : decode b_M_hasNone 78 = .ok (.imul, 1) := by decide +kernel
theorem d_M_hasNone_79 : decode b_M_hasNone 79 = .ok (.iload 4, 2) := by decide +kernel
theorem d_M_hasNone_81 : decode b_M_hasNone 81 = .ok (.iadd, 1) := by decide +kernel
theorem d_M_hasNone_82 : decode b_M_hasNone 82 = .ok (.goto 8, 3) := by decide +kernel
theorem d_M_hasNone_85 : decode b_M_hasNone 85 = .ok (.bipush 100, 2) := by decide +kernel
theorem d_M_hasNone_87 : decode b_M_hasNone 87 = .ok (.iload 4, 2) := by decide +kernel
theorem d_M_hasNone_89 : decode b_M_hasNone 89 = .ok (.iadd, 1) := by decide +kernel
theorem d_M_hasNone_90 : decode b_M_hasNone 90 = .ok (.iastore, 1) := by decide +kernel
theorem d_M_hasNone_91 : decode b_M_hasNone 91 = .ok (.iconst 1, 1) := by decide +kernel
theorem d_M_hasNone_92 : decode b_M_hasNone 92 = .ok (.istore 5, 2) := by decide +kernel
theorem d_M_hasNone_94 : decode b_M_hasNone 94 = .ok (.iconst 0, 1) := by decide +kernel
theorem d_M_hasNone_95 : decode b_M_hasNone 95 = .ok (.istore 6, 2) := by decide +kernel
theorem d_M_hasNone_97 : decode b_M_hasNone 97 = .ok (.iload 6, 2) := by decide +kernel
theorem d_M_hasNone_99 : decode b_M_hasNone 99 = .ok (.aload_n 0, 1) := by decide +kernel
theorem d_M_hasNone_100 : decode b_M_hasNone 100 = .ok (.getfield 156, 3) := by decide +kernel
theorem d_M_hasNone_103 : decode b_M_hasNone 103 = .ok (.iload_n 1, 1) := by decide +kernel
theorem d_M_hasNone_104 : decode b_M_hasNone 104 = .ok (.iaload, 1) := by decide +kernel
theorem d_M_hasNone_105 : decode b_M_hasNone 105 = .ok (.if_icmp .ge 31, 3) := by decide +kernel
theorem d_M_hasNone_108 : decode b_M_hasNone 108 = .ok (.iload 5, 2) := by decide +kernel
theorem d_M_hasNone_110 : decode b_M_hasNone 110 = .ok (.ifCond .eq 26, 3) := by decide +kernel
theorem d_M_hasNone_113 : decode b_M_hasNone 113 = .ok (.aload_n 0, 1) := by decide +kernel
theorem d_M_hasNone_114 : decode b_M_hasNone 114 = .ok (.aload_n 0, 1) := by decide +kernel
theorem d_M_hasNone_115 : decode b_M_hasNone 115 = .ok (.getfield 159, 3) := by decide +kernel
theorem d_M_hasNone_118 : decode b_M_hasNone 118 = .ok (.iconst 3, 1) := by decide +kernel
theorem d_M_hasNone_119 : decode b_M_hasNone 119 = .ok (.iload_n 1, 1) := by decide +kernel
theorem d_M_hasNone_120 : decode b_M_hasNone 120 = .ok (.imul, 1) := by decide +kernel
theorem d_M_hasNone_121 : decode b_M_hasNone 121 = .ok (.iload 6, 2) := by decide +kernel
theorem d_M_hasNone_123 : decode b_M_hasNone 123 = .ok (.iadd, 1) := by decide +kernel
theorem d_M_hasNone_124 : decode b_M_hasNone 124 = .ok (.iaload, 1) := by decide +kernel
theorem d_M_hasNone_125 : decode b_M_hasNone 125 = .ok (.invokevirtual 492, 3) := by decide +kernel
theorem d_M_hasNone_128 : decode b_M_hasNone 128 = .ok (.istore 5, 2) := by decide +kernel
theorem d_M_hasNone_130 : decode b_M_hasNone 130 = .ok (.iinc 6 1, 3) := by decide +kernel
theorem d_M_hasNone_133 : decode b_M_hasNone 133 = .ok (.goto (-36), 3) := by decide +kernel
theorem d_M_hasNone_136 : decode b_M_hasNone 136 = .ok (.iload 5, 2) := by decide +kernel
theorem d_M_hasNone_138 : decode b_M_hasNone 138 = .ok (.ifCond .eq 5, 3) := by decide +kernel
theorem d_M_hasNone_141 : decode b_M_hasNone 141 = .ok (.iconst 0, 1) := by decide +kernel
theorem d_M_hasNone_142 : decode b_M_hasNone 142 = .ok (.ireturn, 1) := by decide +kernel
theorem d_M_hasNone_143 : decode b_M_hasNone 143 = .ok (.iinc 4 1, 3) := by decide +kernel
theorem d_M_hasNone_146 : decode b_M_hasNone 146 = .ok (.goto (-111), 3) := by decide +kernel
theorem d_M_hasNone_149 : decode b_M_hasNone 149 = .ok (.iconst 1, 1) := by decide +kernel
theorem d_M_hasNone_150 : decode b_M_hasNone 150 = .ok (.ireturn, 1) := by decide +kernel
theorem d_M_passes_0 : decode b_M_passes 0 = .ok (.iconst 1, 1) := by decide +kernel
theorem d_M_passes_1 : decode b_M_passes 1 = .ok (.istore_n 2, 1) := by decide +kernel
theorem d_M_passes_2 : decode b_M_passes 2 = .ok (.iconst 0, 1) := by decide +kernel
theorem d_M_passes_3 : decode b_M_passes 3 = .ok (.istore_n 3, 1) := by decide +kernel
theorem d_M_passes_4 : decode b_M_passes 4 = .ok (.iload_n 3, 1) := by decide +kernel
theorem d_M_passes_5 : decode b_M_passes 5 = .ok (.aload_n 0, 1) := by decide +kernel
theorem d_M_passes_6 : decode b_M_passes 6 = .ok (.getfield 96, 3) := by decide +kernel
theorem d_M_passes_9 : decode b_M_passes 9 = .ok (.iload_n 1, 1) := by decide +kernel
theorem d_M_passes_10 : decode b_M_passes 10 = .ok (.iaload, 1) := by decide +kernel
theorem d_M_passes_11 : decode b_M_passes 11 = .ok (.if_icmp .ge 53, 3) := by decide +kernel
theorem d_M_passes_14 : decode b_M_passes 14 = .ok (.iload_n 2, 1) := by decide +kernel
theorem d_M_passes_15 : decode b_M_passes 15 = .ok (.ifCond .eq 49, 3) := by decide +kernel
theorem d_M_passes_18 : decode b_M_passes 18 = .ok (.aload_n 0, 1) := by decide +kernel
theorem d_M_passes_19 : decode b_M_passes 19 = .ok (.getfield 99, 3) := by decide +kernel
theorem d_M_passes_22 : decode b_M_passes 22 = .ok (.bipush 6, 2) := by decide +kernel
theorem d_M_passes_24 : decode b_M_passes 24 = .ok (.iload_n 1, 1) := by decide +kernel
theorem d_M_passes_25 : decode b_M_passes 25 = .ok (.imul, 1) := by decide +kernel
theorem d_M_passes_26 : decode b_M_passes 26 = .ok (.iload_n 3, 1) := by decide +kernel
theorem d_M_passes_27 : decode b_M_passes 27 = .ok (.iadd, 1) := by decide +kernel
theorem d_M_passes_28 : decode b_M_passes 28 = .ok (.iaload, 1) := by decide +kernel
theorem d_M_passes_29 : decode b_M_passes 29 = .ok (.istore 4, 2) := by decide +kernel
theorem d_M_passes_31 : decode b_M_passes 31 = .ok (.aload_n 0, 1) := by decide +kernel
theorem d_M_passes_32 : decode b_M_passes 32 = .ok (.getfield 141, 3) := by decide +kernel
theorem d_M_passes_35 : decode b_M_passes 35 = .ok (.iload 4, 2) := by decide +kernel
theorem d_M_passes_37 : decode b_M_passes 37 = .ok (.iaload, 1) := by decide +kernel
theorem d_M_passes_38 : decode b_M_passes 38 = .ok (.iconst 2, 1) := by decide +kernel
theorem d_M_passes_39 : decode b_M_passes 39 = .ok (.if_icmp .ne 12, 3) := by decide +kernel
theorem d_M_passes_42 : decode b_M_passes 42 = .ok (.aload_n 0, 1) := by decide +kernel
theorem d_M_passes_43 : decode b_M_passes 43 = .ok (.iload 4, 2) := by decide +kernel
theorem d_M_passes_45 : decode b_M_passes 45 = .ok (.invokevirtual 495, 3) := by decide +kernel
theorem d_M_passes_48 : decode b_M_passes 48 = .ok (.goto 9, 3) := by decide +kernel
theorem d_M_passes_51 : decode b_M_passes 51 = .ok (.aload_n 0, 1) := by decide +kernel
theorem d_M_passes_52 : decode b_M_passes 52 = .ok (.iload 4, 2) := by decide +kernel
theorem d_M_passes_54 : decode b_M_passes 54 = .ok (.invokevirtual 492, 3) := by decide +kernel
theorem d_M_passes_57 : decode b_M_passes 57 = .ok (.istore_n 2, 1) := by decide +kernel
theorem d_M_passes_58 : decode b_M_passes 58 = .ok (.iinc 3 1, 3) := by decide +kernel
theorem d_M_passes_61 : decode b_M_passes 61 = .ok (.goto (-57), 3) := by decide +kernel
theorem d_M_passes_64 : decode b_M_passes 64 = .ok (.iload_n 2, 1) := by decide +kernel
theorem d_M_passes_65 : decode b_M_passes 65 = .ok (.ireturn, 1) := by decide +kernel
theorem d_M_isSeen_0 : decode b_M_isSeen 0 = .ok (.iload 4, 2) := by decide +kernel
theorem d_M_isSeen_2 : decode b_M_isSeen 2 = .ok (.iload_n 2, 1) := by decide +kernel
theorem d_M_isSeen_3 : decode b_M_isSeen 3 = .ok (.ishr, 1) := by decide +kernel
theorem d_M_isSeen_4 : decode b_M_isSeen 4 = .ok (.iconst 1, 1) := by decide +kernel
theorem d_M_isSeen_5 : decode b_M_isSeen 5 = .ok (.iand, 1) := by decide +kernel
theorem d_M_isSeen_6 : decode b_M_isSeen 6 = .ok (.ifCond .ne 5, 3) := by decide +kernel
theorem d_M_isSeen_9 : decode b_M_isSeen 9 = .ok (.iconst 1, 1) := by decide +kernel
theorem d_M_isSeen_10 : decode b_M_isSeen 10 = .ok (.ireturn, 1) := by decide +kernel
theorem d_M_isSeen_11 : decode b_M_isSeen 11 = .ok (.aload_n 0, 1) := by decide +kernel
theorem d_M_isSeen_12 : decode b_M_isSeen 12 = .ok (.getfield 78, 3) := by decide +kernel
theorem d_M_isSeen_15 : decode b_M_isSeen 15 = .ok (.iload_n 1, 1) := by decide +kernel
theorem d_M_isSeen_16 : decode b_M_isSeen 16 = .ok (.iaload, 1) := by decide +kernel
theorem d_M_isSeen_17 : decode b_M_isSeen 17 = .ok (.iload_n 2, 1) := by decide +kernel
theorem d_M_isSeen_18 : decode b_M_isSeen 18 = .ok (.if_icmp .ne 37, 3) := by decide +kernel
theorem d_M_isSeen_21 : decode b_M_isSeen 21 = .ok (.aload_n 0, 1) := by decide +kernel
theorem d_M_isSeen_22 : decode b_M_isSeen 22 = .ok (.getfield 53, 3) := by decide +kernel
theorem d_M_isSeen_25 : decode b_M_isSeen 25 = .ok (.iload_n 2, 1) := by decide +kernel
theorem d_M_isSeen_26 : decode b_M_isSeen 26 = .ok (.iaload, 1) := by decide +kernel
theorem d_M_isSeen_27 : decode b_M_isSeen 27 = .ok (.iconst (-1), 1) := by decide +kernel
theorem d_M_isSeen_28 : decode b_M_isSeen 28 = .ok (.if_icmp .eq 27, 3) := by decide +kernel
theorem d_M_isSeen_31 : decode b_M_isSeen 31 = .ok (.aload_n 0, 1) := by decide +kernel
theorem d_M_isSeen_32 : decode b_M_isSeen 32 = .ok (.getfield 183, 3) := by decide +kernel
theorem d_M_isSeen_35 : decode b_M_isSeen 35 = .ok (.iconst 4, 1) := by decide +kernel
theorem d_M_isSeen_36 : decode b_M_isSeen 36 = .ok (.iload_n 3, 1) := by decide +kernel
theorem d_M_isSeen_37 : decode b_M_isSeen 37 = .ok (.imul, 1) := by decide +kernel
theorem d_M_isSeen_38 : decode b_M_isSeen 38 = .ok (.aload_n 0, 1) := by decide +kernel
theorem d_M_isSeen_39 : decode b_M_isSeen 39 = .ok (.getfield 38, 3) := by decide +kernel
theorem d_M_isSeen_42 : decode b_M_isSeen 42 = .ok (.iload_n 2, 1) := by decide +kernel
theorem d_M_isSeen_43 : decode b_M_isSeen 43 = .ok (.iaload, 1) := by decide +kernel
theorem d_M_isSeen_44 : decode b_M_isSeen 44 = .ok (.iadd, 1) := by decide +kernel
theorem d_M_isSeen_45 : decode b_M_isSeen 45 = .ok (.laload, 1) := by decide +kernel
theorem d_M_isSeen_46 : decode b_M_isSeen 46 = .ok (.lconst 1, 1) := by decide +kernel
theorem d_M_isSeen_47 : decode b_M_isSeen 47 = .ok (.lcmp, 1) := by decide +kernel
theorem d_M_isSeen_48 : decode b_M_isSeen 48 = .ok (.ifCond .ne 7, 3) := by decide +kernel
theorem d_M_isSeen_51 : decode b_M_isSeen 51 = .ok (.iconst 1, 1) := by decide +kernel
theorem d_M_isSeen_52 : decode b_M_isSeen 52 = .ok (.goto 4, 3) := by decide +kernel
theorem d_M_isSeen_55 : decode b_M_isSeen 55 = .ok (.iconst 0, 1) := by decide +kernel
theorem d_M_isSeen_56 : decode b_M_isSeen 56 = .ok (.istore 7, 2) := by decide +kernel
theorem d_M_isSeen_58 : decode b_M_isSeen 58 = .ok (.iload_n 3, 1) := by decide +kernel
theorem d_M_isSeen_59 : decode b_M_isSeen 59 = .ok (.iload 5, 2) := by decide +kernel
theorem d_M_isSeen_61 : decode b_M_isSeen 61 = .ok (.if_icmp .lt 18, 3) := by decide +kernel
theorem d_M_isSeen_64 : decode b_M_isSeen 64 = .ok (.iload_n 3, 1) := by decide +kernel
theorem d_M_isSeen_65 : decode b_M_isSeen 65 = .ok (.iload 6, 2) := by decide +kernel
theorem d_M_isSeen_67 : decode b_M_isSeen 67 = .ok (.if_icmp .ge 12, 3) := by decide +kernel
theorem d_M_isSeen_70 : decode b_M_isSeen 70 = .ok (.iload 7, 2) := by decide +kernel
theorem d_M_isSeen_72 : decode b_M_isSeen 72 = .ok (.ifCond .ne 7, 3) := by decide +kernel
theorem d_M_isSeen_75 : decode b_M_isSeen 75 = .ok (.iconst 1, 1) := by decide +kernel
theorem d_M_isSeen_76 : decode b_M_isSeen 76 = .ok (.goto 4, 3) := by decide +kernel
theorem d_M_isSeen_79 : decode b_M_isSeen 79 = .ok (.iconst 0, 1) := by decide +kernel
theorem d_M_isSeen_80 : decode b_M_isSeen 80 = .ok (.ireturn, 1) := by decide +kernel
theorem d_M_gather_0 : decode b_M_gather 0 = .ok (.iconst 0, 1) := by decide +kernel
theorem d_M_gather_1 : decode b_M_gather 1 = .ok (.istore 5, 2) := by decide +kernel
theorem d_M_gather_3 : decode b_M_gather 3 = .ok (.iload 5, 2) := by decide +kernel
theorem d_M_gather_5 : decode b_M_gather 5 = .ok (.aload_n 0, 1) := by decide +kernel
theorem d_M_gather_6 : decode b_M_gather 6 = .ok (.getfield 93, 3) := by decide +kernel
theorem d_M_gather_9 : decode b_M_gather 9 = .ok (.iload_n 1, 1) := by decide +kernel
theorem d_M_gather_10 : decode b_M_gather 10 = .ok (.iaload, 1) := by decide +kernel
theorem d_M_gather_11 : decode b_M_gather 11 = .ok (.if_icmp .ge 180, 3) := by decide +kernel
theorem d_M_gather_14 : decode b_M_gather 14 = .ok (.aload_n 0, 1) := by decide +kernel
theorem d_M_gather_15 : decode b_M_gather 15 = .ok (.getfield 138, 3) := by decide +kernel
theorem d_M_gather_18 : decode b_M_gather 18 = .ok (.aload_n 0, 1) := by decide +kernel
theorem d_M_gather_19 : decode b_M_gather 19 = .ok (.getfield 90, 3) := by decide +kernel
theorem d_M_gather_22 : decode b_M_gather 22 = .ok (.iload_n 1, 1) := by decide +kernel
theorem d_M_gather_23 : decode b_M_gather 23 = .ok (.iaload, 1) := by decide +kernel
theorem d_M_gather_24 : decode b_M_gather 24 = .ok (.iload 5, 2) := by decide +kernel
theorem d_M_gather_26 : decode b_M_gather 26 = .ok (.iadd, 1) := by decide +kernel
theorem d_M_gather_27 : decode b_M_gather 27 = .ok (.iaload, 1) := by decide +kernel
theorem d_M_gather_28 : decode b_M_gather 28 = .ok (.istore 6, 2) := by decide +kernel
theorem d_M_gather_30 : decode b_M_gather 30 = .ok (.aload_n 0, 1) := by decide +kernel
theorem d_M_gather_31 : decode b_M_gather 31 = .ok (.getfield 219, 3) := by decide +kernel
theorem d_M_gather_34 : decode b_M_gather 34 = .ok (.iload 5, 2) := by decide +kernel
theorem d_M_gather_36 : decode b_M_gather 36 = .ok (.iconst 0, 1) := by decide +kernel
theorem d_M_gather_37 : decode b_M_gather 37 = .ok (.iastore, 1) := by decide +kernel
theorem d_M_gather_38 : decode b_M_gather 38 = .ok (.iload 6, 2) := by decide +kernel
theorem d_M_gather_40 : decode b_M_gather 40 = .ok (.bipush 10, 2) := by decide +kernel
theorem d_M_gather_42 : decode b_M_gather 42 = .ok (.if_icmp .ge 13, 3) := by decide +kernel
theorem d_M_gather_45 : decode b_M_gather 45 = .ok (.aload_n 0, 1) := by decide +kernel
theorem d_M_gather_46 : decode b_M_gather 46 = .ok (.getfield 13, 3) := by decide +kernel
theorem d_M_gather_49 : decode b_M_gather 49 = .ok (.iload 6, 2) := by decide +kernel
theorem d_M_gather_51 : decode b_M_gather 51 = .ok (.iaload, 1) := by decide +kernel
theorem d_M_gather_52 : decode b_M_gather 52 = .ok (.goto 7, 3) := by decide +kernel
theorem d_M_gather_55 : decode b_M_gather 55 = .ok (.aload_n 0, 1) := by decide +kernel
theorem d_M_gather_56 : decode b_M_gather 56 = .ok (.getfield 489, 3) := by decide +kernel
theorem d_M_gather_59 : decode b_M_gather 59 = .ok (.istore 7, 2) := by decide +kernel
theorem d_M_gather_61 : decode b_M_gather 61 = .ok (.iconst 0, 1) := by decide +kernel
theorem d_M_gather_62 : decode b_M_gather 62 = .ok (.istore 8, 2) := by decide +kernel
theorem d_M_gather_64 : decode b_M_gather 64 = .ok (.iload 8, 2) := by decide +kernel
theorem d_M_gather_66 : decode b_M_gather 66 = .ok (.iload 7, 2) := by decide +kernel
theorem d_M_gather_68 : decode b_M_gather 68 = .ok (.if_icmp .ge 117, 3) := by decide +kernel
theorem d_M_gather_71 : decode b_M_gather 71 = .ok (.iload 6, 2) := by decide +kernel
theorem d_M_gather_73 : decode b_M_gather 73 = .ok (.bipush 10, 2) := by decide +kernel
theorem d_M_gather_75 : decode b_M_gather 75 = .ok (.if_icmp .lt 37, 3) := by decide +kernel
theorem d_M_gather_78 : decode b_M_gather 78 = .ok (.aload_n 0, 1) := by decide +kernel
theorem d_M_gather_79 : decode b_M_gather 79 = .ok (.getfield 180, 3) := by decide +kernel
theorem d_M_gather_82 : decode b_M_gather 82 = .ok (.iload 8, 2) := by decide +kernel
theorem d_M_gather_84 : decode b_M_gather 84 = .ok (.iaload, 1) := by decide +kernel
theorem d_M_gather_85 : decode b_M_gather 85 = .ok (.iload 6, 2) := by decide +kernel
theorem d_M_gather_87 : decode b_M_gather 87 = .ok (.bipush 10, 2) := by decide +kernel
theorem d_M_gather_89 : decode b_M_gather 89 = .ok (.isub, 1) := by decide +kernel
theorem d_M_gather_90 : decode b_M_gather 90 = .ok (.if_icmp .ne 26, 3) := by decide +kernel
theorem d_M_gather_93 : decode b_M_gather 93 = .ok (.aload_n 0, 1) := by decide +kernel
theorem d_M_gather_94 : decode b_M_gather 94 = .ok (.iload_n 1, 1) := by decide +kernel
theorem d_M_gather_95 : decode b_M_gather 95 = .ok (.iload 6, 2) := by decide +kernel
theorem d_M_gather_97 : decode b_M_gather 97 = .ok (.bipush 10, 2) := by decide +kernel
theorem d_M_gather_99 : decode b_M_gather 99 = .ok (.isub, 1) := by decide +kernel
theorem d_M_gather_100 : decode b_M_gather 100 = .ok (.iload 8, 2) := by decide +kernel
theorem d_M_gather_102 : decode b_M_gather 102 = .ok (.iload_n 2, 1) := by decide +kernel
theorem d_M_gather_103 : decode b_M_gather 103 = .ok (.iload_n 3, 1) := by decide +kernel
theorem d_M_gather_104 : decode b_M_gather 104 = .ok (.iload 4, 2) := by decide +kernel
theorem d_M_gather_106 : decode b_M_gather 106 = .ok (.invokevirtual 498, 3) := by decide +kernel
theorem d_M_gather_109 : decode b_M_gather 109 = .ok (.ifCond .eq 7, 3) := by decide +kernel
theorem d_M_gather_112 : decode b_M_gather 112 = .ok (.iconst 1, 1) := by decide +kernel
theorem d_M_gather_113 : decode b_M_gather 113 = .ok (.goto 4, 3) := by decide +kernel
theorem d_M_gather_116 : decode b_M_gather 116 = .ok (.iconst 0, 1) := by decide +kernel
theorem d_M_gather_117 : decode b_M_gather 117 = .ok (.istore 9, 2) := by decide +kernel
theorem d_M_gather_119 : decode b_M_gather 119 = .ok (.iload 9, 2) := by decide +kernel
theorem d_M_gather_121 : decode b_M_gather 121 = .ok (.ifCond .ne 6, 3) := by decide +kernel
theorem d_M_gather_124 : decode b_M_gather 124 = .ok (.goto 55, 3) := by decide +kernel
theorem d_M_gather_127 : decode b_M_gather 127 = .ok (.aload_n 0, 1) := by decide +kernel
theorem d_M_gather_128 : decode b_M_gather 128 = .ok (.getfield 216, 3) := by decide +kernel
theorem d_M_gather_131 : decode b_M_gather 131 = .ok (.bipush 64, 2) := by decide +kernel
theorem d_M_gather_133 : decode b_M_gather 133 = .ok (.iload 5, 2) := by decide +kernel
theorem d_M_gather_135 : decode b_M_gather 135 = .ok (.imul, 1) := by decide +kernel
theorem d_M_gather_136 : decode b_M_gather 136 = .ok (.aload_n 0, 1) := by decide +kernel
theorem d_M_gather_137 : decode b_M_gather 137 = .ok (.getfield 219, 3) := by decide +kernel
theorem d_M_gather_140 : decode b_M_gather 140 = .ok (.iload 5, 2) := by decide +kernel
theorem d_M_gather_142 : decode b_M_gather 142 = .ok (.iaload, 1) := by decide +kernel
theorem d_M_gather_143 : decode b_M_gather 143 = .ok (.iadd, 1) := by decide +kernel
theorem d_M_gather_144 : decode b_M_gather 144 = .ok (.iload 6, 2) := by decide +kernel
theorem d_M_gather_146 : decode b_M_gather 146 = .ok (.bipush 10, 2) := by decide +kernel
theorem d_M_gather_148 : decode b_M_gather 148 = .ok (.if_icmp .ge 14, 3) := by decide +kernel
theorem d_M_gather_151 : decode b_M_gather 151 = .ok (.bipush 16, 2) := by decide +kernel
theorem d_M_gather_153 : decode b_M_gather 153 = .ok (.iload 6, 2) := by decide +kernel
theorem d_M_gather_155 : decode b_M_gather 155 = .ok (.imul, 1) := by decide +kernel
theorem d_M_gather_156 : decode b_M_gather 156 = .ok (.iload 8, 2) := by decide +kernel
theorem d_M_gather_158 : decode b_M_gather 158 = .ok (.iadd, 1) := by decide +kernel
theorem d_M_gather_159 : decode b_M_gather 159 = .ok (.goto 8, 3) := by decide +kernel
theorem d_M_gather_162 : decode b_M_gather 162 = .ok (.bipush 100, 2) := by decide +kernel
theorem d_M_gather_164 : decode b_M_gather 164 = .ok (.iload 8, 2) := by decide +kernel
theorem d_M_gather_166 : decode b_M_gather 166 = .ok (.iadd, 1) := by decide +kernel
theorem d_M_gather_167 : decode b_M_gather 167 = .ok (.iastore, 1) := by decide +kernel
theorem d_M_gather_168 : decode b_M_gather 168 = .ok (.aload_n 0, 1) := by decide +kernel
theorem d_M_gather_169 : decode b_M_gather 169 = .ok (.getfield 219, 3) := by decide +kernel
theorem d_M_gather_172 : decode b_M_gather 172 = .ok (.iload 5, 2) := by decide +kernel
theorem d_M_gather_174 : decode b_M_gather 174 = .ok (.dup2, 1) := by decide +kernel
theorem d_M_gather_175 : decode b_M_gather 175 = .ok (.iaload, 1) := by decide +kernel
theorem d_M_gather_176 : decode b_M_gather 176 = .ok (.iconst 1, 1) := by decide +kernel
theorem d_M_gather_177 : decode b_M_gather 177 = .ok (.iadd, 1) := by decide +kernel
theorem d_M_gather_178 : decode b_M_gather 178 = .ok (.iastore, 1) := by decide +kernel
theorem d_M_gather_179 : decode b_M_gather 179 = .ok (.iinc 8 1, 3) := by decide +kernel
theorem d_M_gather_182 : decode b_M_gather 182 = .ok (.goto (-118), 3) := by decide +kernel
theorem d_M_gather_185 : decode b_M_gather 185 = .ok (.iinc 5 1, 3) := by decide +kernel
theorem d_M_gather_188 : decode b_M_gather 188 = .ok (.goto (-185), 3) := by decide +kernel
theorem d_M_gather_191 : decode b_M_gather 191 = .ok (.return_, 1) := by decide +kernel
theorem d_M_first_0 : decode b_M_first 0 = .ok (.iconst 1, 1) := by decide +kernel
theorem d_M_first_1 : decode b_M_first 1 = .ok (.istore_n 2, 1) := by decide +kernel
theorem d_M_first_2 : decode b_M_first 2 = .ok (.iconst 0, 1) := by decide +kernel
theorem d_M_first_3 : decode b_M_first 3 = .ok (.istore_n 3, 1) := by decide +kernel
theorem d_M_first_4 : decode b_M_first 4 = .ok (.iload_n 3, 1) := by decide +kernel
theorem d_M_first_5 : decode b_M_first 5 = .ok (.aload_n 0, 1) := by decide +kernel
theorem d_M_first_6 : decode b_M_first 6 = .ok (.getfield 93, 3) := by decide +kernel
theorem d_M_first_9 : decode b_M_first 9 = .ok (.iload_n 1, 1) := by decide +kernel
theorem d_M_first_10 : decode b_M_first 10 = .ok (.iaload, 1) := by decide +kernel
theorem d_M_first_11 : decode b_M_first 11 = .ok (.if_icmp .ge 35, 3) := by decide +kernel
theorem d_M_first_14 : decode b_M_first 14 = .ok (.aload_n 0, 1) := by decide +kernel
theorem d_M_first_15 : decode b_M_first 15 = .ok (.getfield 222, 3) := by decide +kernel
theorem d_M_first_18 : decode b_M_first 18 = .ok (.iload_n 3, 1) := by decide +kernel
theorem d_M_first_19 : decode b_M_first 19 = .ok (.iconst 0, 1) := by decide +kernel
theorem d_M_first_20 : decode b_M_first 20 = .ok (.iastore, 1) := by decide +kernel
theorem d_M_first_21 : decode b_M_first 21 = .ok (.iload_n 2, 1) := by decide +kernel
theorem d_M_first_22 : decode b_M_first 22 = .ok (.ifCond .eq 16, 3) := by decide +kernel
theorem d_M_first_25 : decode b_M_first 25 = .ok (.aload_n 0, 1) := by decide +kernel
theorem d_M_first_26 : decode b_M_first 26 = .ok (.getfield 219, 3) := by decide +kernel
theorem d_M_first_29 : decode b_M_first 29 = .ok (.iload_n 3, 1) := by decide +kernel
theorem d_M_first_30 : decode b_M_first 30 = .ok (.iaload, 1) := by decide +kernel
theorem d_M_first_31 : decode b_M_first 31 = .ok (.ifCond .le 7, 3) := by decide +kernel
theorem d_M_first_34 : decode b_M_first 34 = .ok (.iconst 1, 1) := by decide +kernel
theorem d_M_first_35 : decode b_M_first 35 = .ok (.goto 4, 3) := by decide +kernel
theorem d_M_first_38 : decode b_M_first 38 = .ok (.iconst 0, 1) := by decide +kernel
theorem d_M_first_39 : decode b_M_first 39 = .ok (.istore_n 2, 1) := by decide +kernel
theorem d_M_first_40 : decode b_M_first 40 = .ok (.iinc 3 1, 3) := by decide +kernel
theorem d_M_first_43 : decode b_M_first 43 = .ok (.goto (-39), 3) := by decide +kernel
theorem d_M_first_46 : decode b_M_first 46 = .ok (.iload_n 2, 1) := by decide +kernel
theorem d_M_first_47 : decode b_M_first 47 = .ok (.ireturn, 1) := by decide +kernel
theorem d_M_next_0 : decode b_M_next 0 = .ok (.aload_n 0, 1) := by decide +kernel
theorem d_M_next_1 : decode b_M_next 1 = .ok (.getfield 93, 3) := by decide +kernel
theorem d_M_next_4 : decode b_M_next 4 = .ok (.iload_n 1, 1) := by decide +kernel
theorem d_M_next_5 : decode b_M_next 5 = .ok (.iaload, 1) := by decide +kernel
theorem d_M_next_6 : decode b_M_next 6 = .ok (.iconst 1, 1) := by decide +kernel
theorem d_M_next_7 : decode b_M_next 7 = .ok (.isub, 1) := by decide +kernel
theorem d_M_next_8 : decode b_M_next 8 = .ok (.istore_n 2, 1) := by decide +kernel
theorem d_M_next_9 : decode b_M_next 9 = .ok (.iload_n 2, 1) := by decide +kernel
theorem d_M_next_10 : decode b_M_next 10 = .ok (.ifCond .lt 33, 3) := by decide +kernel
theorem d_M_next_13 : decode b_M_next 13 = .ok (.aload_n 0, 1) := by decide +kernel
theorem d_M_next_14 : decode b_M_next 14 = .ok (.getfield 222, 3) := by decide +kernel
theorem d_M_next_17 : decode b_M_next 17 = .ok (.iload_n 2, 1) := by decide +kernel
theorem d_M_next_18 : decode b_M_next 18 = .ok (.iaload, 1) := by decide +kernel
theorem d_M_next_19 : decode b_M_next 19 = .ok (.aload_n 0, 1) := by decide +kernel
theorem d_M_next_20 : decode b_M_next 20 = .ok (.getfield 219, 3) := by decide +kernel
theorem d_M_next_23 : decode b_M_next 23 = .ok (.iload_n 2, 1) := by decide +kernel
theorem d_M_next_24 : decode b_M_next 24 = .ok (.iaload, 1) := by decide +kernel
theorem d_M_next_25 : decode b_M_next 25 = .ok (.iconst 1, 1) := by decide +kernel
theorem d_M_next_26 : decode b_M_next 26 = .ok (.isub, 1) := by decide +kernel
theorem d_M_next_27 : decode b_M_next 27 = .ok (.if_icmp .ne 16, 3) := by decide +kernel
theorem d_M_next_30 : decode b_M_next 30 = .ok (.aload_n 0, 1) := by decide +kernel
theorem d_M_next_31 : decode b_M_next 31 = .ok (.getfield 222, 3) := by decide +kernel
theorem d_M_next_34 : decode b_M_next 34 = .ok (.iload_n 2, 1) := by decide +kernel
theorem d_M_next_35 : decode b_M_next 35 = .ok (.iconst 0, 1) := by decide +kernel
theorem d_M_next_36 : decode b_M_next 36 = .ok (.iastore, 1) := by decide +kernel
theorem d_M_next_37 : decode b_M_next 37 = .ok (.iinc 2 (-1), 3) := by decide +kernel
theorem d_M_next_40 : decode b_M_next 40 = .ok (.goto (-31), 3) := by decide +kernel
theorem d_M_next_43 : decode b_M_next 43 = .ok (.iload_n 2, 1) := by decide +kernel
theorem d_M_next_44 : decode b_M_next 44 = .ok (.ifCond .ge 5, 3) := by decide +kernel
theorem d_M_next_47 : decode b_M_next 47 = .ok (.iconst 0, 1) := by decide +kernel
theorem d_M_next_48 : decode b_M_next 48 = .ok (.ireturn, 1) := by decide +kernel
theorem d_M_next_49 : decode b_M_next 49 = .ok (.aload_n 0, 1) := by decide +kernel
theorem d_M_next_50 : decode b_M_next 50 = .ok (.getfield 222, 3) := by decide +kernel
theorem d_M_next_53 : decode b_M_next 53 = .ok (.iload_n 2, 1) := by decide +kernel
theorem d_M_next_54 : decode b_M_next 54 = .ok (.dup2, 1) := by decide +kernel
theorem d_M_next_55 : decode b_M_next 55 = .ok (.iaload, 1) := by decide +kernel
theorem d_M_next_56 : decode b_M_next 56 = .ok (.iconst 1, 1) := by decide +kernel
theorem d_M_next_57 : decode b_M_next 57 = .ok (.iadd, 1) := by decide +kernel
theorem d_M_next_58 : decode b_M_next 58 = .ok (.iastore, 1) := by decide +kernel
theorem d_M_next_59 : decode b_M_next 59 = .ok (.iconst 1, 1) := by decide +kernel
theorem d_M_next_60 : decode b_M_next 60 = .ok (.ireturn, 1) := by decide +kernel
theorem d_M_matches_0 : decode b_M_matches 0 = .ok (.iconst 0, 1) := by decide +kernel
theorem d_M_matches_1 : decode b_M_matches 1 = .ok (.istore_n 2, 1) := by decide +kernel
theorem d_M_matches_2 : decode b_M_matches 2 = .ok (.iload_n 2, 1) := by decide +kernel
theorem d_M_matches_3 : decode b_M_matches 3 = .ok (.aload_n 0, 1) := by decide +kernel
theorem d_M_matches_4 : decode b_M_matches 4 = .ok (.getfield 93, 3) := by decide +kernel
theorem d_M_matches_7 : decode b_M_matches 7 = .ok (.iload_n 1, 1) := by decide +kernel
theorem d_M_matches_8 : decode b_M_matches 8 = .ok (.iaload, 1) := by decide +kernel
theorem d_M_matches_9 : decode b_M_matches 9 = .ok (.if_icmp .ge 31, 3) := by decide +kernel
theorem d_M_matches_12 : decode b_M_matches 12 = .ok (.aload_n 0, 1) := by decide +kernel
theorem d_M_matches_13 : decode b_M_matches 13 = .ok (.getfield 225, 3) := by decide +kernel
theorem d_M_matches_16 : decode b_M_matches 16 = .ok (.iload_n 2, 1) := by decide +kernel
theorem d_M_matches_17 : decode b_M_matches 17 = .ok (.aload_n 0, 1) := by decide +kernel
theorem d_M_matches_18 : decode b_M_matches 18 = .ok (.getfield 216, 3) := by decide +kernel
theorem d_M_matches_21 : decode b_M_matches 21 = .ok (.bipush 64, 2) := by decide +kernel
theorem d_M_matches_23 : decode b_M_matches 23 = .ok (.iload_n 2, 1) := by decide +kernel
theorem d_M_matches_24 : decode b_M_matches 24 = .ok (.imul, 1) := by decide +kernel
theorem d_M_matches_25 : decode b_M_matches 25 = .ok (.aload_n 0, 1) := by decide +kernel
theorem d_M_matches_26 : decode b_M_matches 26 = .ok (.getfield 222, 3) := by decide +kernel
theorem d_M_matches_29 : decode b_M_matches 29 = .ok (.iload_n 2, 1) := by decide +kernel
theorem d_M_matches_30 : decode b_M_matches 30 = .ok (.iaload, 1) := by decide +kernel
theorem d_M_matches_31 : decode b_M_matches 31 = .ok (.iadd, 1) := by decide +kernel
theorem d_M_matches_32 : decode b_M_matches 32 = .ok (.iaload, 1) := by decide +kernel
theorem d_M_matches_33 : decode b_M_matches 33 = .ok (.iastore, 1) := by decide +kernel
theorem d_M_matches_34 : decode b_M_matches 34 = .ok (.iinc 2 1, 3) := by decide +kernel
theorem d_M_matches_37 : decode b_M_matches 37 = .ok (.goto (-35), 3) := by decide +kernel
theorem d_M_matches_40 : decode b_M_matches 40 = .ok (.aload_n 0, 1) := by decide +kernel
theorem d_M_matches_41 : decode b_M_matches 41 = .ok (.iload_n 1, 1) := by decide +kernel
theorem d_M_matches_42 : decode b_M_matches 42 = .ok (.invokevirtual 502, 3) := by decide +kernel
theorem d_M_matches_45 : decode b_M_matches 45 = .ok (.ireturn, 1) := by decide +kernel
theorem d_M_isInt_0 : decode b_M_isInt 0 = .ok (.lload_n 0, 1) := by decide +kernel
theorem d_M_isInt_1 : decode b_M_isInt 1 = .ok (.ldc2_w 505, 3) := by decide +kernel
theorem d_M_isInt_4 : decode b_M_isInt 4 = .ok (.lcmp, 1) := by decide +kernel
theorem d_M_isInt_5 : decode b_M_isInt 5 = .ok (.ifCond .lt 15, 3) := by decide +kernel
theorem d_M_isInt_8 : decode b_M_isInt 8 = .ok (.lload_n 0, 1) := by decide +kernel
theorem d_M_isInt_9 : decode b_M_isInt 9 = .ok (.ldc2_w 507, 3) := by decide +kernel
theorem d_M_isInt_12 : decode b_M_isInt 12 = .ok (.lcmp, 1) := by decide +kernel
theorem d_M_isInt_13 : decode b_M_isInt 13 = .ok (.ifCond .gt 7, 3) := by decide +kernel
theorem d_M_isInt_16 : decode b_M_isInt 16 = .ok (.iconst 1, 1) := by decide +kernel
theorem d_M_isInt_17 : decode b_M_isInt 17 = .ok (.goto 4, 3) := by decide +kernel
theorem d_M_isInt_20 : decode b_M_isInt 20 = .ok (.iconst 0, 1) := by decide +kernel
theorem d_M_isInt_21 : decode b_M_isInt 21 = .ok (.ireturn, 1) := by decide +kernel
theorem d_M_fits_0 : decode b_M_fits 0 = .ok (.lload_n 0, 1) := by decide +kernel
theorem d_M_fits_1 : decode b_M_fits 1 = .ok (.ldc2_w 253, 3) := by decide +kernel
theorem d_M_fits_4 : decode b_M_fits 4 = .ok (.lcmp, 1) := by decide +kernel
theorem d_M_fits_5 : decode b_M_fits 5 = .ok (.ifCond .eq 10, 3) := by decide +kernel
theorem d_M_fits_8 : decode b_M_fits 8 = .ok (.lload_n 0, 1) := by decide +kernel
theorem d_M_fits_9 : decode b_M_fits 9 = .ok (.invokestatic 509, 3) := by decide +kernel
theorem d_M_fits_12 : decode b_M_fits 12 = .ok (.ifCond .eq 7, 3) := by decide +kernel
theorem d_M_fits_15 : decode b_M_fits 15 = .ok (.iconst 1, 1) := by decide +kernel
theorem d_M_fits_16 : decode b_M_fits 16 = .ok (.goto 4, 3) := by decide +kernel
theorem d_M_fits_19 : decode b_M_fits 19 = .ok (.iconst 0, 1) := by decide +kernel
theorem d_M_fits_20 : decode b_M_fits 20 = .ok (.ireturn, 1) := by decide +kernel
theorem d_M_itemOf_0 : decode b_M_itemOf 0 = .ok (.aload_n 0, 1) := by decide +kernel
theorem d_M_itemOf_1 : decode b_M_itemOf 1 = .ok (.aload_n 0, 1) := by decide +kernel
theorem d_M_itemOf_2 : decode b_M_itemOf 2 = .ok (.getfield 108, 3) := by decide +kernel
theorem d_M_itemOf_5 : decode b_M_itemOf 5 = .ok (.aload_n 0, 1) := by decide +kernel
theorem d_M_itemOf_6 : decode b_M_itemOf 6 = .ok (.getfield 84, 3) := by decide +kernel
theorem d_M_itemOf_9 : decode b_M_itemOf 9 = .ok (.iload_n 1, 1) := by decide +kernel
theorem d_M_itemOf_10 : decode b_M_itemOf 10 = .ok (.iaload, 1) := by decide +kernel
theorem d_M_itemOf_11 : decode b_M_itemOf 11 = .ok (.iload_n 2, 1) := by decide +kernel
theorem d_M_itemOf_12 : decode b_M_itemOf 12 = .ok (.iadd, 1) := by decide +kernel
theorem d_M_itemOf_13 : decode b_M_itemOf 13 = .ok (.iaload, 1) := by decide +kernel
theorem d_M_itemOf_14 : decode b_M_itemOf 14 = .ok (.invokevirtual 485, 3) := by decide +kernel
theorem d_M_itemOf_17 : decode b_M_itemOf 17 = .ok (.lreturn, 1) := by decide +kernel
theorem d_M_kindOf_0 : decode b_M_kindOf 0 = .ok (.aload_n 0, 1) := by decide +kernel
theorem d_M_kindOf_1 : decode b_M_kindOf 1 = .ok (.getfield 105, 3) := by decide +kernel
theorem d_M_kindOf_4 : decode b_M_kindOf 4 = .ok (.aload_n 0, 1) := by decide +kernel
theorem d_M_kindOf_5 : decode b_M_kindOf 5 = .ok (.getfield 84, 3) := by decide +kernel
theorem d_M_kindOf_8 : decode b_M_kindOf 8 = .ok (.iload_n 1, 1) := by decide +kernel
theorem d_M_kindOf_9 : decode b_M_kindOf 9 = .ok (.iaload, 1) := by decide +kernel
theorem d_M_kindOf_10 : decode b_M_kindOf 10 = .ok (.iload_n 2, 1) := by decide +kernel
theorem d_M_kindOf_11 : decode b_M_kindOf 11 = .ok (.iadd, 1) := by decide +kernel
theorem d_M_kindOf_12 : decode b_M_kindOf 12 = .ok (.iaload, 1) := by decide +kernel
theorem d_M_kindOf_13 : decode b_M_kindOf 13 = .ok (.ireturn, 1) := by decide +kernel
theorem d_M_openGroup_0 : decode b_M_openGroup 0 = .ok (.iconst 0, 1) := by decide +kernel
theorem d_M_openGroup_1 : decode b_M_openGroup 1 = .ok (.istore_n 2, 1) := by decide +kernel
theorem d_M_openGroup_2 : decode b_M_openGroup 2 = .ok (.iload_n 2, 1) := by decide +kernel
theorem d_M_openGroup_3 : decode b_M_openGroup 3 = .ok (.aload_n 0, 1) := by decide +kernel
theorem d_M_openGroup_4 : decode b_M_openGroup 4 = .ok (.getfield 87, 3) := by decide +kernel
theorem d_M_openGroup_7 : decode b_M_openGroup 7 = .ok (.iload_n 1, 1) := by decide +kernel
theorem d_M_openGroup_8 : decode b_M_openGroup 8 = .ok (.iaload, 1) := by decide +kernel
theorem d_M_openGroup_9 : decode b_M_openGroup 9 = .ok (.if_icmp .ge 72, 3) := by decide +kernel
theorem d_M_openGroup_12 : decode b_M_openGroup 12 = .ok (.aload_n 0, 1) := by decide +kernel
theorem d_M_openGroup_13 : decode b_M_openGroup 13 = .ok (.getfield 228, 3) := by decide +kernel
theorem d_M_openGroup_16 : decode b_M_openGroup 16 = .ok (.iconst 4, 1) := by decide +kernel
theorem d_M_openGroup_17 : decode b_M_openGroup 17 = .ok (.aload_n 0, 1) := by decide +kernel
theorem d_M_openGroup_18 : decode b_M_openGroup 18 = .ok (.getfield 541, 3) := by decide +kernel
theorem d_M_openGroup_21 : decode b_M_openGroup 21 = .ok (.imul, 1) := by decide +kernel
theorem d_M_openGroup_22 : decode b_M_openGroup 22 = .ok (.iload_n 2, 1) := by decide +kernel
theorem d_M_openGroup_23 : decode b_M_openGroup 23 = .ok (.iadd, 1) := by decide +kernel
theorem d_M_openGroup_24 : decode b_M_openGroup 24 = .ok (.aload_n 0, 1) := by decide +kernel
theorem d_M_openGroup_25 : decode b_M_openGroup 25 = .ok (.iload_n 1, 1) := by decide +kernel
theorem d_M_openGroup_26 : decode b_M_openGroup 26 = .ok (.iload_n 2, 1) := by decide +kernel
theorem d_M_openGroup_27 : decode b_M_openGroup 27 = .ok (.invokevirtual 523, 3) := by decide +kernel
theorem d_M_openGroup_30 : decode b_M_openGroup 30 = .ok (.ifCond .ne 12, 3) := by decide +kernel
theorem d_M_openGroup_33 : decode b_M_openGroup 33 = .ok (.aload_n 0, 1) := by decide +kernel
theorem d_M_openGroup_34 : decode b_M_openGroup 34 = .ok (.iload_n 1, 1) := by decide +kernel
theorem d_M_openGroup_35 : decode b_M_openGroup 35 = .ok (.iload_n 2, 1) := by decide +kernel
theorem d_M_openGroup_36 : decode b_M_openGroup 36 = .ok (.invokevirtual 526, 3) := by decide +kernel
theorem d_M_openGroup_39 : decode b_M_openGroup 39 = .ok (.goto 21, 3) := by decide +kernel
theorem d_M_openGroup_42 : decode b_M_openGroup 42 = .ok (.aload_n 0, 1) := by decide +kernel
theorem d_M_openGroup_43 : decode b_M_openGroup 43 = .ok (.iload_n 1, 1) := by decide +kernel
theorem d_M_openGroup_44 : decode b_M_openGroup 44 = .ok (.iload_n 2, 1) := by decide +kernel
theorem d_M_openGroup_45 : decode b_M_openGroup 45 = .ok (.invokevirtual 523, 3) := by decide +kernel
theorem d_M_openGroup_48 : decode b_M_openGroup 48 = .ok (.bipush 21, 2) := by decide +kernel
theorem d_M_openGroup_50 : decode b_M_openGroup 50 = .ok (.if_icmp .ne 7, 3) := by decide +kernel
theorem d_M_openGroup_53 : decode b_M_openGroup 53 = .ok (.lconst 0, 1) := by decide +kernel
theorem d_M_openGroup_54 : decode b_M_openGroup 54 = .ok (.goto 6, 3) := by decide +kernel
theorem d_M_openGroup_57 : decode b_M_openGroup 57 = .ok (.ldc2_w 253, 3) := by decide +kernel
theorem d_M_openGroup_60 : decode b_M_openGroup 60 = .ok (.lastore, 1) := by decide +kernel
theorem d_M_openGroup_61 : decode b_M_openGroup 61 = .ok (.aload_n 0, 1) := by decide +kernel
theorem d_M_openGroup_62 : decode b_M_openGroup 62 = .ok (.getfield 231, 3) := by decide +kernel
theorem d_M_openGroup_65 : decode b_M_openGroup 65 = .ok (.iconst 4, 1) := by decide +kernel
theorem d_M_openGroup_66 : decode b_M_openGroup 66 = .ok (.aload_n 0, 1) := by decide +kernel
theorem d_M_openGroup_67 : decode b_M_openGroup 67 = .ok (.getfield 541, 3) := by decide +kernel
theorem d_M_openGroup_70 : decode b_M_openGroup 70 = .ok (.imul, 1) := by decide +kernel
theorem d_M_openGroup_71 : decode b_M_openGroup 71 = .ok (.iload_n 2, 1) := by decide +kernel
theorem d_M_openGroup_72 : decode b_M_openGroup 72 = .ok (.iadd, 1) := by decide +kernel
theorem d_M_openGroup_73 : decode b_M_openGroup 73 = .ok (.lconst 0, 1) := by decide +kernel
theorem d_M_openGroup_74 : decode b_M_openGroup 74 = .ok (.lastore, 1) := by decide +kernel
theorem d_M_openGroup_75 : decode b_M_openGroup 75 = .ok (.iinc 2 1, 3) := by decide +kernel
theorem d_M_openGroup_78 : decode b_M_openGroup 78 = .ok (.goto (-76), 3) := by decide +kernel
theorem d_M_openGroup_81 : decode b_M_openGroup 81 = .ok (.aload_n 0, 1) := by decide +kernel
theorem d_M_openGroup_82 : decode b_M_openGroup 82 = .ok (.dup, 1) := by decide +kernel
theorem d_M_openGroup_83 : decode b_M_openGroup 83 = .ok (.getfield 541, 3) := by decide +kernel
theorem d_M_openGroup_86 : decode b_M_openGroup 86 = .ok (.iconst 1, 1) := by decide +kernel
theorem d_M_openGroup_87 : decode b_M_openGroup 87 = .ok (.iadd, 1) := by decide +kernel
theorem d_M_openGroup_88 : decode b_M_openGroup 88 = .ok (.putfield 541, 3) := by decide +kernel
theorem d_M_openGroup_91 : decode b_M_openGroup 91 = .ok (.return_, 1) := by decide +kernel
theorem d_M_groupOf_0 : decode b_M_groupOf 0 = .ok (.iconst 0, 1) := by decide +kernel
theorem d_M_groupOf_1 : decode b_M_groupOf 1 = .ok (.istore_n 2, 1) := by decide +kernel
theorem d_M_groupOf_2 : decode b_M_groupOf 2 = .ok (.iconst 0, 1) := by decide +kernel
theorem d_M_groupOf_3 : decode b_M_groupOf 3 = .ok (.istore_n 3, 1) := by decide +kernel
theorem d_M_groupOf_4 : decode b_M_groupOf 4 = .ok (.iload_n 2, 1) := by decide +kernel
theorem d_M_groupOf_5 : decode b_M_groupOf 5 = .ok (.aload_n 0, 1) := by decide +kernel
theorem d_M_groupOf_6 : decode b_M_groupOf 6 = .ok (.getfield 541, 3) := by decide +kernel
theorem d_M_groupOf_9 : decode b_M_groupOf 9 = .ok (.if_icmp .ge 86, 3) := by decide +kernel
theorem d_M_groupOf_12 : decode b_M_groupOf 12 = .ok (.iload_n 3, 1) := by decide +kernel
theorem d_M_groupOf_13 : decode b_M_groupOf 13 = .ok (.ifCond .ne 82, 3) := by decide +kernel
theorem d_M_groupOf_16 : decode b_M_groupOf 16 = .ok (.iconst 1, 1) := by decide +kernel
theorem d_M_groupOf_17 : decode b_M_groupOf 17 = .ok (.istore_n 3, 1) := by decide +kernel
theorem d_M_groupOf_18 : decode b_M_groupOf 18 = .ok (.iconst 0, 1) := by decide +kernel
theorem d_M_groupOf_19 : decode b_M_groupOf 19 = .ok (.istore 4, 2) := by decide +kernel
theorem d_M_groupOf_21 : decode b_M_groupOf 21 = .ok (.iload 4, 2) := by decide +kernel
theorem d_M_groupOf_23 : decode b_M_groupOf 23 = .ok (.aload_n 0, 1) := by decide +kernel
theorem d_M_groupOf_24 : decode b_M_groupOf 24 = .ok (.getfield 87, 3) := by decide +kernel
theorem d_M_groupOf_27 : decode b_M_groupOf 27 = .ok (.iload_n 1, 1) := by decide +kernel
theorem d_M_groupOf_28 : decode b_M_groupOf 28 = .ok (.iaload, 1) := by decide +kernel
theorem d_M_groupOf_29 : decode b_M_groupOf 29 = .ok (.if_icmp .ge 51, 3) := by decide +kernel
theorem d_M_groupOf_32 : decode b_M_groupOf 32 = .ok (.iload_n 3, 1) := by decide +kernel
theorem d_M_groupOf_33 : decode b_M_groupOf 33 = .ok (.ifCond .eq 39, 3) := by decide +kernel
theorem d_M_groupOf_36 : decode b_M_groupOf 36 = .ok (.aload_n 0, 1) := by decide +kernel
theorem d_M_groupOf_37 : decode b_M_groupOf 37 = .ok (.iload_n 1, 1) := by decide +kernel
theorem d_M_groupOf_38 : decode b_M_groupOf 38 = .ok (.iload 4, 2) := by decide +kernel
theorem d_M_groupOf_40 : decode b_M_groupOf 40 = .ok (.invokevirtual 523, 3) := by decide +kernel
theorem d_M_groupOf_43 : decode b_M_groupOf 43 = .ok (.ifCond .gt 25, 3) := by decide +kernel
theorem d_M_groupOf_46 : decode b_M_groupOf 46 = .ok (.aload_n 0, 1) := by decide +kernel
theorem d_M_groupOf_47 : decode b_M_groupOf 47 = .ok (.getfield 228, 3) := by decide +kernel
theorem d_M_groupOf_50 : decode b_M_groupOf 50 = .ok (.iconst 4, 1) := by decide +kernel
theorem d_M_groupOf_51 : decode b_M_groupOf 51 = .ok (.iload_n 2, 1) := by decide +kernel
theorem d_M_groupOf_52 : decode b_M_groupOf 52 = .ok (.imul, 1) := by decide +kernel
theorem d_M_groupOf_53 : decode b_M_groupOf 53 = .ok (.iload 4, 2) := by decide +kernel
theorem d_M_groupOf_55 : decode b_M_groupOf 55 = .ok (.iadd, 1) := by decide +kernel
theorem d_M_groupOf_56 : decode b_M_groupOf 56 = .ok (.laload, 1) := by decide +kernel
theorem d_M_groupOf_57 : decode b_M_groupOf 57 = .ok (.aload_n 0, 1) := by decide +kernel
theorem d_M_groupOf_58 : decode b_M_groupOf 58 = .ok (.iload_n 1, 1) := by decide +kernel
theorem d_M_groupOf_59 : decode b_M_groupOf 59 = .ok (.iload 4, 2) := by decide +kernel
theorem d_M_groupOf_61 : decode b_M_groupOf 61 = .ok (.invokevirtual 526, 3) := by decide +kernel
theorem d_M_groupOf_64 : decode b_M_groupOf 64 = .ok (.lcmp, 1) := by decide +kernel
theorem d_M_groupOf_65 : decode b_M_groupOf 65 = .ok (.ifCond .ne 7, 3) := by decide +kernel
theorem d_M_groupOf_68 : decode b_M_groupOf 68 = .ok (.iconst 1, 1) := by decide +kernel
theorem d_M_groupOf_69 : decode b_M_groupOf 69 = .ok (.goto 4, 3) := by decide +kernel
theorem d_M_groupOf_72 : decode b_M_groupOf 72 = .ok (.iconst 0, 1) := by decide +kernel
theorem d_M_groupOf_73 : decode b_M_groupOf 73 = .ok (.istore_n 3, 1) := by decide +kernel
theorem d_M_groupOf_74 : decode b_M_groupOf 74 = .ok (.iinc 4 1, 3) := by decide +kernel
theorem d_M_groupOf_77 : decode b_M_groupOf 77 = .ok (.goto (-56), 3) := by decide +kernel
theorem d_M_groupOf_80 : decode b_M_groupOf 80 = .ok (.iload_n 2, 1) := by decide +kernel
theorem d_M_groupOf_81 : decode b_M_groupOf 81 = .ok (.iload_n 3, 1) := by decide +kernel
theorem d_M_groupOf_82 : decode b_M_groupOf 82 = .ok (.ifCond .eq 7, 3) := by decide +kernel
theorem d_M_groupOf_85 : decode b_M_groupOf 85 = .ok (.iconst 0, 1) := by decide +kernel
theorem d_M_groupOf_86 : decode b_M_groupOf 86 = .ok (.goto 4, 3) := by decide +kernel
theorem d_M_groupOf_89 : decode b_M_groupOf 89 = .ok (.iconst 1, 1) := by decide +kernel
theorem d_M_groupOf_90 : decode b_M_groupOf 90 = .ok (.iadd, 1) := by decide +kernel
theorem d_M_groupOf_91 : decode b_M_groupOf 91 = .ok (.istore_n 2, 1) := by decide +kernel
theorem d_M_groupOf_92 : decode b_M_groupOf 92 = .ok (.goto (-88), 3) := by decide +kernel
theorem d_M_groupOf_95 : decode b_M_groupOf 95 = .ok (.iload_n 2, 1) := by decide +kernel
theorem d_M_groupOf_96 : decode b_M_groupOf 96 = .ok (.ireturn, 1) := by decide +kernel
theorem d_M_fold_0 : decode b_M_fold 0 = .ok (.iload_n 1, 1) := by decide +kernel
theorem d_M_fold_1 : decode b_M_fold 1 = .ok (.ifCond .ne 4, 3) := by decide +kernel
theorem d_M_fold_4 : decode b_M_fold 4 = .ok (.return_, 1) := by decide +kernel
theorem d_M_fold_5 : decode b_M_fold 5 = .ok (.iload_n 1, 1) := by decide +kernel
theorem d_M_fold_6 : decode b_M_fold 6 = .ok (.bipush 21, 2) := by decide +kernel
theorem d_M_fold_8 : decode b_M_fold 8 = .ok (.if_icmp .ne 14, 3) := by decide +kernel
theorem d_M_fold_11 : decode b_M_fold 11 = .ok (.aload_n 0, 1) := by decide +kernel
theorem d_M_fold_12 : decode b_M_fold 12 = .ok (.getfield 228, 3) := by decide +kernel
theorem d_M_fold_15 : decode b_M_fold 15 = .ok (.iload_n 2, 1) := by decide +kernel
theorem d_M_fold_16 : decode b_M_fold 16 = .ok (.dup2, 1) := by decide +kernel
theorem d_M_fold_17 : decode b_M_fold 17 = .ok (.laload, 1) := by decide +kernel
theorem d_M_fold_18 : decode b_M_fold 18 = .ok (.lconst 1, 1) := by decide +kernel
theorem d_M_fold_19 : decode b_M_fold 19 = .ok (.ladd, 1) := by decide +kernel
theorem d_M_fold_20 : decode b_M_fold 20 = .ok (.lastore, 1) := by decide +kernel
theorem d_M_fold_21 : decode b_M_fold 21 = .ok (.return_, 1) := by decide +kernel
theorem d_M_fold_22 : decode b_M_fold 22 = .ok (.lload_n 3, 1) := by decide +kernel
theorem d_M_fold_23 : decode b_M_fold 23 = .ok (.ldc2_w 253, 3) := by decide +kernel
theorem d_M_fold_26 : decode b_M_fold 26 = .ok (.lcmp, 1) := by decide +kernel
theorem d_M_fold_27 : decode b_M_fold 27 = .ok (.ifCond .ne 4, 3) := by decide +kernel
theorem d_M_fold_30 : decode b_M_fold 30 = .ok (.return_, 1) := by decide +kernel
theorem d_M_fold_31 : decode b_M_fold 31 = .ok (.aload_n 0, 1) := by decide +kernel
theorem d_M_fold_32 : decode b_M_fold 32 = .ok (.getfield 231, 3) := by decide +kernel
theorem d_M_fold_35 : decode b_M_fold 35 = .ok (.iload_n 2, 1) := by decide +kernel
theorem d_M_fold_36 : decode b_M_fold 36 = .ok (.laload, 1) := by decide +kernel
theorem d_M_fold_37 : decode b_M_fold 37 = .ok (.lconst 0, 1) := by decide +kernel
theorem d_M_fold_38 : decode b_M_fold 38 = .ok (.lcmp, 1) := by decide +kernel
theorem d_M_fold_39 : decode b_M_fold 39 = .ok (.ifCond .ne 7, 3) := by decide +kernel
theorem d_M_fold_42 : decode b_M_fold 42 = .ok (.iconst 1, 1) := by decide +kernel
theorem d_M_fold_43 : decode b_M_fold 43 = .ok (.goto 4, 3) := by decide +kernel
theorem d_M_fold_46 : decode b_M_fold 46 = .ok (.iconst 0, 1) := by decide +kernel
theorem d_M_fold_47 : decode b_M_fold 47 = .ok (.istore 5, 2) := by decide +kernel
theorem d_M_fold_49 : decode b_M_fold 49 = .ok (.aload_n 0, 1) := by decide +kernel
theorem d_M_fold_50 : decode b_M_fold 50 = .ok (.getfield 231, 3) := by decide +kernel
theorem d_M_fold_53 : decode b_M_fold 53 = .ok (.iload_n 2, 1) := by decide +kernel
theorem d_M_fold_54 : decode b_M_fold 54 = .ok (.dup2, 1) := by decide +kernel
theorem d_M_fold_55 : decode b_M_fold 55 = .ok (.laload, 1) := by decide +kernel
theorem d_M_fold_56 : decode b_M_fold 56 = .ok (.lconst 1, 1) := by decide +kernel
theorem d_M_fold_57 : decode b_M_fold 57 = .ok (.ladd, 1) := by decide +kernel
theorem d_M_fold_58 : decode b_M_fold 58 = .ok (.lastore, 1) := by decide +kernel
theorem d_M_fold_59 : decode b_M_fold 59 = .ok (.aload_n 0, 1) := by decide +kernel
theorem d_M_fold_60 : decode b_M_fold 60 = .ok (.getfield 228, 3) := by decide +kernel
theorem d_M_fold_63 : decode b_M_fold 63 = .ok (.iload_n 2, 1) := by decide +kernel
theorem d_M_fold_64 : decode b_M_fold 64 = .ok (.laload, 1) := by decide +kernel
theorem d_M_fold_65 : decode b_M_fold 65 = .ok (.lstore 6, 2) := by decide +kernel
theorem d_M_fold_67 : decode b_M_fold 67 = .ok (.aload_n 0, 1) := by decide +kernel
theorem d_M_fold_68 : decode b_M_fold 68 = .ok (.getfield 228, 3) := by decide +kernel
theorem d_M_fold_71 : decode b_M_fold 71 = .ok (.iload_n 2, 1) := by decide +kernel
theorem d_M_fold_72 : decode b_M_fold 72 = .ok (.iload 5, 2) := by decide +kernel
theorem d_M_fold_74 : decode b_M_fold 74 = .ok (.ifCond .eq 7, 3) := by decide +kernel
theorem d_M_fold_77 : decode b_M_fold 77 = .ok (.lload_n 3, 1) := by decide +kernel
theorem d_M_fold_78 : decode b_M_fold 78 = .ok (.goto 51, 3) := by decide +kernel
theorem d_M_fold_81 : decode b_M_fold 81 = .ok (.iload_n 1, 1) := by decide +kernel
theorem d_M_fold_82 : decode b_M_fold 82 = .ok (.bipush 22, 2) := by decide +kernel
theorem d_M_fold_84 : decode b_M_fold 84 = .ok (.if_icmp .ne 10, 3) := by decide +kernel
theorem d_M_fold_87 : decode b_M_fold 87 = .ok (.lload 6, 2) := by decide +kernel
theorem d_M_fold_89 : decode b_M_fold 89 = .ok (.lload_n 3, 1) := by decide +kernel
theorem d_M_fold_90 : decode b_M_fold 90 = .ok (.ladd, 1) := by decide +kernel
theorem d_M_fold_91 : decode b_M_fold 91 = .ok (.goto 38, 3) := by decide +kernel
theorem d_M_fold_94 : decode b_M_fold 94 = .ok (.iload_n 1, 1) := by decide +kernel
theorem d_M_fold_95 : decode b_M_fold 95 = .ok (.bipush 24, 2) := by decide +kernel
theorem d_M_fold_97 : decode b_M_fold 97 = .ok (.if_icmp .ne 19, 3) := by decide +kernel
theorem d_M_fold_100 : decode b_M_fold 100 = .ok (.lload 6, 2) := by decide +kernel
theorem d_M_fold_102 : decode b_M_fold 102 = .ok (.lload_n 3, 1) := by decide +kernel
theorem d_M_fold_103 : decode b_M_fold 103 = .ok (.lcmp, 1) := by decide +kernel
theorem d_M_fold_104 : decode b_M_fold 104 = .ok (.ifCond .le 8, 3) := by decide +kernel
theorem d_M_fold_107 : decode b_M_fold 107 = .ok (.lload 6, 2) := by decide +kernel
theorem d_M_fold_109 : decode b_M_fold 109 = .ok (.goto 20, 3) := by decide +kernel
theorem d_M_fold_112 : decode b_M_fold 112 = .ok (.lload_n 3, 1) := by decide +kernel
theorem d_M_fold_113 : decode b_M_fold 113 = .ok (.goto 16, 3) := by decide +kernel
theorem d_M_fold_116 : decode b_M_fold 116 = .ok (.lload 6, 2) := by decide +kernel
theorem d_M_fold_118 : decode b_M_fold 118 = .ok (.lload_n 3, 1) := by decide +kernel
theorem d_M_fold_119 : decode b_M_fold 119 = .ok (.lcmp, 1) := by decide +kernel
theorem d_M_fold_120 : decode b_M_fold 120 = .ok (.ifCond .ge 8, 3) := by decide +kernel
theorem d_M_fold_123 : decode b_M_fold 123 = .ok (.lload 6, 2) := by decide +kernel
theorem d_M_fold_125 : decode b_M_fold 125 = .ok (.goto 4, 3) := by decide +kernel
theorem d_M_fold_128 : decode b_M_fold 128 = .ok (.lload_n 3, 1) := by decide +kernel
theorem d_M_fold_129 : decode b_M_fold 129 = .ok (.lastore, 1) := by decide +kernel
theorem d_M_fold_130 : decode b_M_fold 130 = .ok (.return_, 1) := by decide +kernel
theorem d_M_makeGroups_0 : decode b_M_makeGroups 0 = .ok (.aload_n 0, 1) := by decide +kernel
theorem d_M_makeGroups_1 : decode b_M_makeGroups 1 = .ok (.iconst 0, 1) := by decide +kernel
theorem d_M_makeGroups_2 : decode b_M_makeGroups 2 = .ok (.putfield 541, 3) := by decide +kernel
theorem d_M_makeGroups_5 : decode b_M_makeGroups 5 = .ok (.iconst 0, 1) := by decide +kernel
theorem d_M_makeGroups_6 : decode b_M_makeGroups 6 = .ok (.istore_n 2, 1) := by decide +kernel
theorem d_M_makeGroups_7 : decode b_M_makeGroups 7 = .ok (.iconst 0, 1) := by decide +kernel
theorem d_M_makeGroups_8 : decode b_M_makeGroups 8 = .ok (.istore_n 3, 1) := by decide +kernel
theorem d_M_makeGroups_9 : decode b_M_makeGroups 9 = .ok (.iload_n 3, 1) := by decide +kernel
theorem d_M_makeGroups_10 : decode b_M_makeGroups 10 = .ok (.aload_n 0, 1) := by decide +kernel
theorem d_M_makeGroups_11 : decode b_M_makeGroups 11 = .ok (.getfield 87, 3) := by decide +kernel
theorem d_M_makeGroups_14 : decode b_M_makeGroups 14 = .ok (.iload_n 1, 1) := by decide +kernel
theorem d_M_makeGroups_15 : decode b_M_makeGroups 15 = .ok (.iaload, 1) := by decide +kernel
theorem d_M_makeGroups_16 : decode b_M_makeGroups 16 = .ok (.if_icmp .ge 28, 3) := by decide +kernel
theorem d_M_makeGroups_19 : decode b_M_makeGroups 19 = .ok (.iload_n 2, 1) := by decide +kernel
theorem d_M_makeGroups_20 : decode b_M_makeGroups 20 = .ok (.ifCond .ne 12, 3) := by decide +kernel
theorem d_M_makeGroups_23 : decode b_M_makeGroups 23 = .ok (.aload_n 0, 1) := by decide +kernel
theorem d_M_makeGroups_24 : decode b_M_makeGroups 24 = .ok (.iload_n 1, 1) := by decide +kernel
theorem d_M_makeGroups_25 : decode b_M_makeGroups 25 = .ok (.iload_n 3, 1) := by decide +kernel
theorem d_M_makeGroups_26 : decode b_M_makeGroups 26 = .ok (.invokevirtual 523, 3) := by decide +kernel
theorem d_M_makeGroups_29 : decode b_M_makeGroups 29 = .ok (.ifCond .ne 7, 3) := by decide +kernel
theorem d_M_makeGroups_32 : decode b_M_makeGroups 32 = .ok (.iconst 1, 1) := by decide +kernel
theorem d_M_makeGroups_33 : decode b_M_makeGroups 33 = .ok (.goto 4, 3) := by decide +kernel
theorem d_M_makeGroups_36 : decode b_M_makeGroups 36 = .ok (.iconst 0, 1) := by decide +kernel
theorem d_M_makeGroups_37 : decode b_M_makeGroups 37 = .ok (.istore_n 2, 1) := by decide +kernel
theorem d_M_makeGroups_38 : decode b_M_makeGroups 38 = .ok (.iinc 3 1, 3) := by decide +kernel
theorem d_M_makeGroups_41 : decode b_M_makeGroups 41 = .ok (.goto (-32), 3) := by decide +kernel
theorem d_M_makeGroups_44 : decode b_M_makeGroups 44 = .ok (.iload_n 2, 1) := by decide +kernel
theorem d_M_makeGroups_45 : decode b_M_makeGroups 45 = .ok (.ifCond .ne 8, 3) := by decide +kernel
theorem d_M_makeGroups_48 : decode b_M_makeGroups 48 = .ok (.aload_n 0, 1) := by decide +kernel
theorem d_M_makeGroups_49 : decode b_M_makeGroups 49 = .ok (.iload_n 1, 1) := by decide +kernel
theorem d_M_makeGroups_50 : decode b_M_makeGroups 50 = .ok (.invokevirtual 547, 3) := by decide +kernel
theorem d_M_makeGroups_53 : decode b_M_makeGroups 53 = .ok (.aload_n 0, 1) := by decide +kernel
theorem d_M_makeGroups_54 : decode b_M_makeGroups 54 = .ok (.iload_n 1, 1) := by decide +kernel
theorem d_M_makeGroups_55 : decode b_M_makeGroups 55 = .ok (.invokevirtual 517, 3) := by decide +kernel
theorem d_M_makeGroups_58 : decode b_M_makeGroups 58 = .ok (.istore_n 3, 1) := by decide +kernel
theorem d_M_makeGroups_59 : decode b_M_makeGroups 59 = .ok (.iload_n 3, 1) := by decide +kernel
theorem d_M_makeGroups_60 : decode b_M_makeGroups 60 = .ok (.ifCond .eq 129, 3) := by decide +kernel
theorem d_M_makeGroups_63 : decode b_M_makeGroups 63 = .ok (.aload_n 0, 1) := by decide +kernel
theorem d_M_makeGroups_64 : decode b_M_makeGroups 64 = .ok (.iload_n 1, 1) := by decide +kernel
theorem d_M_makeGroups_65 : decode b_M_makeGroups 65 = .ok (.invokevirtual 520, 3) := by decide +kernel
theorem d_M_makeGroups_68 : decode b_M_makeGroups 68 = .ok (.ifCond .ne 6, 3) := by decide +kernel
theorem d_M_makeGroups_71 : decode b_M_makeGroups 71 = .ok (.goto 109, 3) := by decide +kernel
theorem d_M_makeGroups_74 : decode b_M_makeGroups 74 = .ok (.aload_n 0, 1) := by decide +kernel
theorem d_M_makeGroups_75 : decode b_M_makeGroups 75 = .ok (.iload_n 1, 1) := by decide +kernel
theorem d_M_makeGroups_76 : decode b_M_makeGroups 76 = .ok (.invokevirtual 550, 3) := by decide +kernel
theorem d_M_makeGroups_79 : decode b_M_makeGroups 79 = .ok (.istore 4, 2) := by decide +kernel
theorem d_M_makeGroups_81 : decode b_M_makeGroups 81 = .ok (.iload 4, 2) := by decide +kernel
theorem d_M_makeGroups_83 : decode b_M_makeGroups 83 = .ok (.aload_n 0, 1) := by decide +kernel
theorem d_M_makeGroups_84 : decode b_M_makeGroups 84 = .ok (.getfield 541, 3) := by decide +kernel
theorem d_M_makeGroups_87 : decode b_M_makeGroups 87 = .ok (.if_icmp .ne 22, 3) := by decide +kernel
theorem d_M_makeGroups_90 : decode b_M_makeGroups 90 = .ok (.aload_n 0, 1) := by decide +kernel
theorem d_M_makeGroups_91 : decode b_M_makeGroups 91 = .ok (.getfield 541, 3) := by decide +kernel
theorem d_M_makeGroups_94 : decode b_M_makeGroups 94 = .ok (.aload_n 0, 1) := by decide +kernel
