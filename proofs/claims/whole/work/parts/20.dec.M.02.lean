theorem d_M_row_18 : decode b_M_row 18 = .ok (.getfield 13, 3) := by decide +kernel
theorem d_M_row_21 : decode b_M_row 21 = .ok (.iload_n 1, 1) := by decide +kernel
theorem d_M_row_22 : decode b_M_row 22 = .ok (.iaload, 1) := by decide +kernel
theorem d_M_row_23 : decode b_M_row 23 = .ok (.bipush 16, 2) := by decide +kernel
theorem d_M_row_25 : decode b_M_row 25 = .ok (.if_icmp .ne 7, 3) := by decide +kernel
theorem d_M_row_28 : decode b_M_row 28 = .ok (.iconst 2, 1) := by decide +kernel
theorem d_M_row_29 : decode b_M_row 29 = .ok (.goto 4, 3) := by decide +kernel
theorem d_M_row_32 : decode b_M_row 32 = .ok (.iconst 0, 1) := by decide +kernel
theorem d_M_row_33 : decode b_M_row 33 = .ok (.putfield 238, 3) := by decide +kernel
theorem d_M_row_36 : decode b_M_row 36 = .ok (.aload_n 0, 1) := by decide +kernel
theorem d_M_row_37 : decode b_M_row 37 = .ok (.getfield 238, 3) := by decide +kernel
theorem d_M_row_40 : decode b_M_row 40 = .ok (.ifCond .le 5, 3) := by decide +kernel
theorem d_M_row_43 : decode b_M_row 43 = .ok (.iconst 0, 1) := by decide +kernel
theorem d_M_row_44 : decode b_M_row 44 = .ok (.ireturn, 1) := by decide +kernel
theorem d_M_row_45 : decode b_M_row 45 = .ok (.bipush 48, 2) := by decide +kernel
theorem d_M_row_47 : decode b_M_row 47 = .ok (.iload_n 1, 1) := by decide +kernel
theorem d_M_row_48 : decode b_M_row 48 = .ok (.imul, 1) := by decide +kernel
theorem d_M_row_49 : decode b_M_row 49 = .ok (.iconst 3, 1) := by decide +kernel
theorem d_M_row_50 : decode b_M_row 50 = .ok (.aload_n 0, 1) := by decide +kernel
theorem d_M_row_51 : decode b_M_row 51 = .ok (.getfield 13, 3) := by decide +kernel
theorem d_M_row_54 : decode b_M_row 54 = .ok (.iload_n 1, 1) := by decide +kernel
theorem d_M_row_55 : decode b_M_row 55 = .ok (.iaload, 1) := by decide +kernel
theorem d_M_row_56 : decode b_M_row 56 = .ok (.imul, 1) := by decide +kernel
theorem d_M_row_57 : decode b_M_row 57 = .ok (.iadd, 1) := by decide +kernel
theorem d_M_row_58 : decode b_M_row 58 = .ok (.istore 6, 2) := by decide +kernel
theorem d_M_row_60 : decode b_M_row 60 = .ok (.iconst 0, 1) := by decide +kernel
theorem d_M_row_61 : decode b_M_row 61 = .ok (.istore 7, 2) := by decide +kernel
theorem d_M_row_63 : decode b_M_row 63 = .ok (.iload 7, 2) := by decide +kernel
theorem d_M_row_65 : decode b_M_row 65 = .ok (.iconst 3, 1) := by decide +kernel
theorem d_M_row_66 : decode b_M_row 66 = .ok (.if_icmp .ge 60, 3) := by decide +kernel
theorem d_M_row_69 : decode b_M_row 69 = .ok (.aload_n 0, 1) := by decide +kernel
theorem d_M_row_70 : decode b_M_row 70 = .ok (.getfield 16, 3) := by decide +kernel
theorem d_M_row_73 : decode b_M_row 73 = .ok (.iload 6, 2) := by decide +kernel
theorem d_M_row_75 : decode b_M_row 75 = .ok (.iload 7, 2) := by decide +kernel
theorem d_M_row_77 : decode b_M_row 77 = .ok (.iadd, 1) := by decide +kernel
theorem d_M_row_78 : decode b_M_row 78 = .ok (.iload 5, 2) := by decide +kernel
theorem d_M_row_80 : decode b_M_row 80 = .ok (.iload 7, 2) := by decide +kernel
theorem d_M_row_82 : decode b_M_row 82 = .ok (.ishr, 1) := by decide +kernel
theorem d_M_row_83 : decode b_M_row 83 = .ok (.iconst 1, 1) := by decide +kernel
theorem d_M_row_84 : decode b_M_row 84 = .ok (.iand, 1) := by decide +kernel
theorem d_M_row_85 : decode b_M_row 85 = .ok (.iconst 1, 1) := by decide +kernel
theorem d_M_row_86 : decode b_M_row 86 = .ok (.if_icmp .ne 9, 3) := by decide +kernel
theorem d_M_row_89 : decode b_M_row 89 = .ok (.ldc2_w 253, 3) := by decide +kernel
theorem d_M_row_92 : decode b_M_row 92 = .ok (.goto 27, 3) := by decide +kernel
theorem d_M_row_95 : decode b_M_row 95 = .ok (.iload 7, 2) := by decide +kernel
theorem d_M_row_97 : decode b_M_row 97 = .ok (.ifCond .ne 8, 3) := by decide +kernel
theorem d_M_row_100 : decode b_M_row 100 = .ok (.iload_n 2, 1) := by decide +kernel
theorem d_M_row_101 : decode b_M_row 101 = .ok (.i2l, 1) := by decide +kernel
theorem d_M_row_102 : decode b_M_row 102 = .ok (.goto 17, 3) := by decide +kernel
theorem d_M_row_105 : decode b_M_row 105 = .ok (.iload 7, 2) := by decide +kernel
theorem d_M_row_107 : decode b_M_row 107 = .ok (.iconst 1, 1) := by decide +kernel
theorem d_M_row_108 : decode b_M_row 108 = .ok (.if_icmp .ne 8, 3) := by decide +kernel
theorem d_M_row_111 : decode b_M_row 111 = .ok (.iload_n 3, 1) := by decide +kernel
theorem d_M_row_112 : decode b_M_row 112 = .ok (.i2l, 1) := by decide +kernel
theorem d_M_row_113 : decode b_M_row 113 = .ok (.goto 6, 3) := by decide +kernel
theorem d_M_row_116 : decode b_M_row 116 = .ok (.iload 4, 2) := by decide +kernel
theorem d_M_row_118 : decode b_M_row 118 = .ok (.i2l, 1) := by decide +kernel
theorem d_M_row_119 : decode b_M_row 119 = .ok (.lastore, 1) := by decide +kernel
theorem d_M_row_120 : decode b_M_row 120 = .ok (.iinc 7 1, 3) := by decide +kernel
theorem d_M_row_123 : decode b_M_row 123 = .ok (.goto (-60), 3) := by decide +kernel
theorem d_M_row_126 : decode b_M_row 126 = .ok (.aload_n 0, 1) := by decide +kernel
theorem d_M_row_127 : decode b_M_row 127 = .ok (.getfield 13, 3) := by decide +kernel
theorem d_M_row_130 : decode b_M_row 130 = .ok (.iload_n 1, 1) := by decide +kernel
theorem d_M_row_131 : decode b_M_row 131 = .ok (.dup2, 1) := by decide +kernel
theorem d_M_row_132 : decode b_M_row 132 = .ok (.iaload, 1) := by decide +kernel
theorem d_M_row_133 : decode b_M_row 133 = .ok (.iconst 1, 1) := by decide +kernel
theorem d_M_row_134 : decode b_M_row 134 = .ok (.iadd, 1) := by decide +kernel
theorem d_M_row_135 : decode b_M_row 135 = .ok (.iastore, 1) := by decide +kernel
theorem d_M_row_136 : decode b_M_row 136 = .ok (.aload_n 0, 1) := by decide +kernel
theorem d_M_row_137 : decode b_M_row 137 = .ok (.getfield 13, 3) := by decide +kernel
theorem d_M_row_140 : decode b_M_row 140 = .ok (.iload_n 1, 1) := by decide +kernel
theorem d_M_row_141 : decode b_M_row 141 = .ok (.iaload, 1) := by decide +kernel
theorem d_M_row_142 : decode b_M_row 142 = .ok (.ireturn, 1) := by decide +kernel
theorem d_M_clear_0 : decode b_M_clear 0 = .ok (.aload_n 0, 1) := by decide +kernel
theorem d_M_clear_1 : decode b_M_clear 1 = .ok (.iload_n 1, 1) := by decide +kernel
theorem d_M_clear_2 : decode b_M_clear 2 = .ok (.ifCond .lt 11, 3) := by decide +kernel
theorem d_M_clear_5 : decode b_M_clear 5 = .ok (.iload_n 1, 1) := by decide +kernel
theorem d_M_clear_6 : decode b_M_clear 6 = .ok (.aload_n 0, 1) := by decide +kernel
theorem d_M_clear_7 : decode b_M_clear 7 = .ok (.getfield 250, 3) := by decide +kernel
theorem d_M_clear_10 : decode b_M_clear 10 = .ok (.if_icmp .lt 7, 3) := by decide +kernel
theorem d_M_clear_13 : decode b_M_clear 13 = .ok (.iconst 1, 1) := by decide +kernel
theorem d_M_clear_14 : decode b_M_clear 14 = .ok (.goto 4, 3) := by decide +kernel
theorem d_M_clear_17 : decode b_M_clear 17 = .ok (.iconst 0, 1) := by decide +kernel
theorem d_M_clear_18 : decode b_M_clear 18 = .ok (.putfield 238, 3) := by decide +kernel
theorem d_M_clear_21 : decode b_M_clear 21 = .ok (.aload_n 0, 1) := by decide +kernel
theorem d_M_clear_22 : decode b_M_clear 22 = .ok (.getfield 238, 3) := by decide +kernel
theorem d_M_clear_25 : decode b_M_clear 25 = .ok (.ifCond .le 5, 3) := by decide +kernel
theorem d_M_clear_28 : decode b_M_clear 28 = .ok (.iconst 0, 1) := by decide +kernel
theorem d_M_clear_29 : decode b_M_clear 29 = .ok (.ireturn, 1) := by decide +kernel
theorem d_M_clear_30 : decode b_M_clear 30 = .ok (.aload_n 0, 1) := by decide +kernel
theorem d_M_clear_31 : decode b_M_clear 31 = .ok (.getfield 13, 3) := by decide +kernel
theorem d_M_clear_34 : decode b_M_clear 34 = .ok (.iload_n 1, 1) := by decide +kernel
theorem d_M_clear_35 : decode b_M_clear 35 = .ok (.iaload, 1) := by decide +kernel
theorem d_M_clear_36 : decode b_M_clear 36 = .ok (.istore_n 2, 1) := by decide +kernel
theorem d_M_clear_37 : decode b_M_clear 37 = .ok (.aload_n 0, 1) := by decide +kernel
theorem d_M_clear_38 : decode b_M_clear 38 = .ok (.getfield 13, 3) := by decide +kernel
theorem d_M_clear_41 : decode b_M_clear 41 = .ok (.iload_n 1, 1) := by decide +kernel
theorem d_M_clear_42 : decode b_M_clear 42 = .ok (.iconst 0, 1) := by decide +kernel
theorem d_M_clear_43 : decode b_M_clear 43 = .ok (.iastore, 1) := by decide +kernel
theorem d_M_clear_44 : decode b_M_clear 44 = .ok (.iload_n 2, 1) := by decide +kernel
theorem d_M_clear_45 : decode b_M_clear 45 = .ok (.ireturn, 1) := by decide +kernel
theorem d_M_byteOf_0 : decode b_M_byteOf 0 = .ok (.iload_n 0, 1) := by decide +kernel
theorem d_M_byteOf_1 : decode b_M_byteOf 1 = .ok (.iconst 4, 1) := by decide +kernel
theorem d_M_byteOf_2 : decode b_M_byteOf 2 = .ok (.if_icmp .ge 7, 3) := by decide +kernel
theorem d_M_byteOf_5 : decode b_M_byteOf 5 = .ok (.iload_n 1, 1) := by decide +kernel
theorem d_M_byteOf_6 : decode b_M_byteOf 6 = .ok (.goto 36, 3) := by decide +kernel
theorem d_M_byteOf_9 : decode b_M_byteOf 9 = .ok (.iload_n 0, 1) := by decide +kernel
theorem d_M_byteOf_10 : decode b_M_byteOf 10 = .ok (.bipush 8, 2) := by decide +kernel
theorem d_M_byteOf_12 : decode b_M_byteOf 12 = .ok (.if_icmp .ge 7, 3) := by decide +kernel
theorem d_M_byteOf_15 : decode b_M_byteOf 15 = .ok (.iload_n 2, 1) := by decide +kernel
theorem d_M_byteOf_16 : decode b_M_byteOf 16 = .ok (.goto 26, 3) := by decide +kernel
theorem d_M_byteOf_19 : decode b_M_byteOf 19 = .ok (.iload_n 0, 1) := by decide +kernel
theorem d_M_byteOf_20 : decode b_M_byteOf 20 = .ok (.bipush 12, 2) := by decide +kernel
theorem d_M_byteOf_22 : decode b_M_byteOf 22 = .ok (.if_icmp .ge 7, 3) := by decide +kernel
theorem d_M_byteOf_25 : decode b_M_byteOf 25 = .ok (.iload_n 3, 1) := by decide +kernel
theorem d_M_byteOf_26 : decode b_M_byteOf 26 = .ok (.goto 16, 3) := by decide +kernel
theorem d_M_byteOf_29 : decode b_M_byteOf 29 = .ok (.iload_n 0, 1) := by decide +kernel
theorem d_M_byteOf_30 : decode b_M_byteOf 30 = .ok (.bipush 16, 2) := by decide +kernel
theorem d_M_byteOf_32 : decode b_M_byteOf 32 = .ok (.if_icmp .ge 8, 3) := by decide +kernel
theorem d_M_byteOf_35 : decode b_M_byteOf 35 = .ok (.iload 4, 2) := by decide +kernel
theorem d_M_byteOf_37 : decode b_M_byteOf 37 = .ok (.goto 5, 3) := by decide +kernel
theorem d_M_byteOf_40 : decode b_M_byteOf 40 = .ok (.iload 5, 2) := by decide +kernel
theorem d_M_byteOf_42 : decode b_M_byteOf 42 = .ok (.istore 6, 2) := by decide +kernel
theorem d_M_byteOf_44 : decode b_M_byteOf 44 = .ok (.iload 6, 2) := by decide +kernel
theorem d_M_byteOf_46 : decode b_M_byteOf 46 = .ok (.bipush 24, 2) := by decide +kernel
theorem d_M_byteOf_48 : decode b_M_byteOf 48 = .ok (.bipush 8, 2) := by decide +kernel
theorem d_M_byteOf_50 : decode b_M_byteOf 50 = .ok (.iload_n 0, 1) := by decide +kernel
theorem d_M_byteOf_51 : decode b_M_byteOf 51 = .ok (.iconst 4, 1) := by decide +kernel
theorem d_M_byteOf_52 : decode b_M_byteOf 52 = .ok (.irem, 1) := by decide +kernel
theorem d_M_byteOf_53 : decode b_M_byteOf 53 = .ok (.imul, 1) := by decide +kernel
theorem d_M_byteOf_54 : decode b_M_byteOf 54 = .ok (.isub, 1) := by decide +kernel
theorem d_M_byteOf_55 : decode b_M_byteOf 55 = .ok (.ishr, 1) := by decide +kernel
theorem d_M_byteOf_56 : decode b_M_byteOf 56 = .ok (.sipush 255, 3) := by decide +kernel
theorem d_M_byteOf_59 : decode b_M_byteOf 59 = .ok (.iand, 1) := by decide +kernel
theorem d_M_byteOf_60 : decode b_M_byteOf 60 = .ok (.ireturn, 1) := by decide +kernel
theorem d_M_text_0 : decode b_M_text 0 = .ok (.aload_n 0, 1) := by decide +kernel
theorem d_M_text_1 : decode b_M_text 1 = .ok (.iconst 0, 1) := by decide +kernel
theorem d_M_text_2 : decode b_M_text 2 = .ok (.putfield 238, 3) := by decide +kernel
theorem d_M_text_5 : decode b_M_text 5 = .ok (.iconst 0, 1) := by decide +kernel
theorem d_M_text_6 : decode b_M_text 6 = .ok (.istore 6, 2) := by decide +kernel
theorem d_M_text_8 : decode b_M_text 8 = .ok (.iconst 1, 1) := by decide +kernel
theorem d_M_text_9 : decode b_M_text 9 = .ok (.istore 7, 2) := by decide +kernel
theorem d_M_text_11 : decode b_M_text 11 = .ok (.iconst 0, 1) := by decide +kernel
theorem d_M_text_12 : decode b_M_text 12 = .ok (.istore 8, 2) := by decide +kernel
theorem d_M_text_14 : decode b_M_text 14 = .ok (.iload 8, 2) := by decide +kernel
theorem d_M_text_16 : decode b_M_text 16 = .ok (.bipush 20, 2) := by decide +kernel
theorem d_M_text_18 : decode b_M_text 18 = .ok (.if_icmp .ge 69, 3) := by decide +kernel
theorem d_M_text_21 : decode b_M_text 21 = .ok (.iload 8, 2) := by decide +kernel
theorem d_M_text_23 : decode b_M_text 23 = .ok (.iload_n 1, 1) := by decide +kernel
theorem d_M_text_24 : decode b_M_text 24 = .ok (.iload_n 2, 1) := by decide +kernel
theorem d_M_text_25 : decode b_M_text 25 = .ok (.iload_n 3, 1) := by decide +kernel
theorem d_M_text_26 : decode b_M_text 26 = .ok (.iload 4, 2) := by decide +kernel
theorem d_M_text_28 : decode b_M_text 28 = .ok (.iload 5, 2) := by decide +kernel
theorem d_M_text_30 : decode b_M_text 30 = .ok (.invokestatic 255, 3) := by decide +kernel
theorem d_M_text_33 : decode b_M_text 33 = .ok (.istore 9, 2) := by decide +kernel
theorem d_M_text_35 : decode b_M_text 35 = .ok (.iload 6, 2) := by decide +kernel
theorem d_M_text_37 : decode b_M_text 37 = .ok (.iload 9, 2) := by decide +kernel
theorem d_M_text_39 : decode b_M_text 39 = .ok (.ifCond .ne 7, 3) := by decide +kernel
theorem d_M_text_42 : decode b_M_text 42 = .ok (.iconst 0, 1) := by decide +kernel
theorem d_M_text_43 : decode b_M_text 43 = .ok (.goto 4, 3) := by decide +kernel
theorem d_M_text_46 : decode b_M_text 46 = .ok (.iconst 1, 1) := by decide +kernel
theorem d_M_text_47 : decode b_M_text 47 = .ok (.iadd, 1) := by decide +kernel
theorem d_M_text_48 : decode b_M_text 48 = .ok (.istore 6, 2) := by decide +kernel
theorem d_M_text_50 : decode b_M_text 50 = .ok (.iload 7, 2) := by decide +kernel
theorem d_M_text_52 : decode b_M_text 52 = .ok (.ifCond .eq 26, 3) := by decide +kernel
theorem d_M_text_55 : decode b_M_text 55 = .ok (.iload 9, 2) := by decide +kernel
theorem d_M_text_57 : decode b_M_text 57 = .ok (.ifCond .eq 17, 3) := by decide +kernel
theorem d_M_text_60 : decode b_M_text 60 = .ok (.iload 9, 2) := by decide +kernel
theorem d_M_text_62 : decode b_M_text 62 = .ok (.bipush 31, 2) := by decide +kernel
theorem d_M_text_64 : decode b_M_text 64 = .ok (.if_icmp .le 14, 3) := by decide +kernel
theorem d_M_text_67 : decode b_M_text 67 = .ok (.iload 9, 2) := by decide +kernel
theorem d_M_text_69 : decode b_M_text 69 = .ok (.bipush 127, 2) := by decide +kernel
theorem d_M_text_71 : decode b_M_text 71 = .ok (.if_icmp .ge 7, 3) := by decide +kernel
theorem d_M_text_74 : decode b_M_text 74 = .ok (.iconst 1, 1) := by decide +kernel
theorem d_M_text_75 : decode b_M_text 75 = .ok (.goto 4, 3) := by decide +kernel
theorem d_M_text_78 : decode b_M_text 78 = .ok (.iconst 0, 1) := by decide +kernel
theorem d_M_text_79 : decode b_M_text 79 = .ok (.istore 7, 2) := by decide +kernel
theorem d_M_text_81 : decode b_M_text 81 = .ok (.iinc 8 1, 3) := by decide +kernel
theorem d_M_text_84 : decode b_M_text 84 = .ok (.goto (-70), 3) := by decide +kernel
theorem d_M_text_87 : decode b_M_text 87 = .ok (.iload 7, 2) := by decide +kernel
theorem d_M_text_89 : decode b_M_text 89 = .ok (.ifCond .eq 16, 3) := by decide +kernel
theorem d_M_text_92 : decode b_M_text 92 = .ok (.aload_n 0, 1) := by decide +kernel
theorem d_M_text_93 : decode b_M_text 93 = .ok (.getfield 259, 3) := by decide +kernel
theorem d_M_text_96 : decode b_M_text 96 = .ok (.iload 6, 2) := by decide +kernel
theorem d_M_text_98 : decode b_M_text 98 = .ok (.iadd, 1) := by decide +kernel
theorem d_M_text_99 : decode b_M_text 99 = .ok (.sipush 400, 3) := by decide +kernel
theorem d_M_text_102 : decode b_M_text 102 = .ok (.if_icmp .le 5, 3) := by decide +kernel
theorem d_M_text_105 : decode b_M_text 105 = .ok (.iconst 0, 1) := by decide +kernel
theorem d_M_text_106 : decode b_M_text 106 = .ok (.ireturn, 1) := by decide +kernel
theorem d_M_text_107 : decode b_M_text 107 = .ok (.iconst 0, 1) := by decide +kernel
theorem d_M_text_108 : decode b_M_text 108 = .ok (.istore 8, 2) := by decide +kernel
theorem d_M_text_110 : decode b_M_text 110 = .ok (.iload 8, 2) := by decide +kernel
theorem d_M_text_112 : decode b_M_text 112 = .ok (.bipush 20, 2) := by decide +kernel
theorem d_M_text_114 : decode b_M_text 114 = .ok (.if_icmp .ge 52, 3) := by decide +kernel
theorem d_M_text_117 : decode b_M_text 117 = .ok (.iload 8, 2) := by decide +kernel
theorem d_M_text_119 : decode b_M_text 119 = .ok (.iload_n 1, 1) := by decide +kernel
theorem d_M_text_120 : decode b_M_text 120 = .ok (.iload_n 2, 1) := by decide +kernel
theorem d_M_text_121 : decode b_M_text 121 = .ok (.iload_n 3, 1) := by decide +kernel
theorem d_M_text_122 : decode b_M_text 122 = .ok (.iload 4, 2) := by decide +kernel
theorem d_M_text_124 : decode b_M_text 124 = .ok (.iload 5, 2) := by decide +kernel
theorem d_M_text_126 : decode b_M_text 126 = .ok (.invokestatic 255, 3) := by decide +kernel
theorem d_M_text_129 : decode b_M_text 129 = .ok (.istore 9, 2) := by decide +kernel
theorem d_M_text_131 : decode b_M_text 131 = .ok (.iload 9, 2) := by decide +kernel
theorem d_M_text_133 : decode b_M_text 133 = .ok (.ifCond .ne 6, 3) := by decide +kernel
theorem d_M_text_136 : decode b_M_text 136 = .ok (.goto 24, 3) := by decide +kernel
theorem d_M_text_139 : decode b_M_text 139 = .ok (.aload_n 0, 1) := by decide +kernel
theorem d_M_text_140 : decode b_M_text 140 = .ok (.getfield 20, 3) := by decide +kernel
theorem d_M_text_143 : decode b_M_text 143 = .ok (.aload_n 0, 1) := by decide +kernel
theorem d_M_text_144 : decode b_M_text 144 = .ok (.getfield 259, 3) := by decide +kernel
theorem d_M_text_147 : decode b_M_text 147 = .ok (.iload 9, 2) := by decide +kernel
theorem d_M_text_149 : decode b_M_text 149 = .ok (.iastore, 1) := by decide +kernel
theorem d_M_text_150 : decode b_M_text 150 = .ok (.aload_n 0, 1) := by decide +kernel
theorem d_M_text_151 : decode b_M_text 151 = .ok (.dup, 1) := by decide +kernel
theorem d_M_text_152 : decode b_M_text 152 = .ok (.getfield 259, 3) := by decide +kernel
theorem d_M_text_155 : decode b_M_text 155 = .ok (.iconst 1, 1) := by decide +kernel
theorem d_M_text_156 : decode b_M_text 156 = .ok (.iadd, 1) := by decide +kernel
theorem d_M_text_157 : decode b_M_text 157 = .ok (.putfield 259, 3) := by decide +kernel
theorem d_M_text_160 : decode b_M_text 160 = .ok (.iinc 8 1, 3) := by decide +kernel
theorem d_M_text_163 : decode b_M_text 163 = .ok (.goto (-53), 3) := by decide +kernel
theorem d_M_text_166 : decode b_M_text 166 = .ok (.iconst 1, 1) := by decide +kernel
theorem d_M_text_167 : decode b_M_text 167 = .ok (.ireturn, 1) := by decide +kernel
theorem d_M_isCapital_0 : decode b_M_isCapital 0 = .ok (.iload_n 0, 1) := by decide +kernel
theorem d_M_isCapital_1 : decode b_M_isCapital 1 = .ok (.bipush 64, 2) := by decide +kernel
theorem d_M_isCapital_3 : decode b_M_isCapital 3 = .ok (.if_icmp .le 13, 3) := by decide +kernel
theorem d_M_isCapital_6 : decode b_M_isCapital 6 = .ok (.iload_n 0, 1) := by decide +kernel
theorem d_M_isCapital_7 : decode b_M_isCapital 7 = .ok (.bipush 91, 2) := by decide +kernel
theorem d_M_isCapital_9 : decode b_M_isCapital 9 = .ok (.if_icmp .ge 7, 3) := by decide +kernel
theorem d_M_isCapital_12 : decode b_M_isCapital 12 = .ok (.iconst 1, 1) := by decide +kernel
theorem d_M_isCapital_13 : decode b_M_isCapital 13 = .ok (.goto 4, 3) := by decide +kernel
theorem d_M_isCapital_16 : decode b_M_isCapital 16 = .ok (.iconst 0, 1) := by decide +kernel
theorem d_M_isCapital_17 : decode b_M_isCapital 17 = .ok (.ireturn, 1) := by decide +kernel
theorem d_M_isSmall_0 : decode b_M_isSmall 0 = .ok (.iload_n 0, 1) := by decide +kernel
theorem d_M_isSmall_1 : decode b_M_isSmall 1 = .ok (.bipush 96, 2) := by decide +kernel
theorem d_M_isSmall_3 : decode b_M_isSmall 3 = .ok (.if_icmp .le 13, 3) := by decide +kernel
theorem d_M_isSmall_6 : decode b_M_isSmall 6 = .ok (.iload_n 0, 1) := by decide +kernel
theorem d_M_isSmall_7 : decode b_M_isSmall 7 = .ok (.bipush 123, 2) := by decide +kernel
theorem d_M_isSmall_9 : decode b_M_isSmall 9 = .ok (.if_icmp .ge 7, 3) := by decide +kernel
theorem d_M_isSmall_12 : decode b_M_isSmall 12 = .ok (.iconst 1, 1) := by decide +kernel
theorem d_M_isSmall_13 : decode b_M_isSmall 13 = .ok (.goto 4, 3) := by decide +kernel
theorem d_M_isSmall_16 : decode b_M_isSmall 16 = .ok (.iconst 0, 1) := by decide +kernel
theorem d_M_isSmall_17 : decode b_M_isSmall 17 = .ok (.ireturn, 1) := by decide +kernel
theorem d_M_isDigit_0 : decode b_M_isDigit 0 = .ok (.iload_n 0, 1) := by decide +kernel
theorem d_M_isDigit_1 : decode b_M_isDigit 1 = .ok (.bipush 47, 2) := by decide +kernel
theorem d_M_isDigit_3 : decode b_M_isDigit 3 = .ok (.if_icmp .le 13, 3) := by decide +kernel
theorem d_M_isDigit_6 : decode b_M_isDigit 6 = .ok (.iload_n 0, 1) := by decide +kernel
theorem d_M_isDigit_7 : decode b_M_isDigit 7 = .ok (.bipush 58, 2) := by decide +kernel
theorem d_M_isDigit_9 : decode b_M_isDigit 9 = .ok (.if_icmp .ge 7, 3) := by decide +kernel
theorem d_M_isDigit_12 : decode b_M_isDigit 12 = .ok (.iconst 1, 1) := by decide +kernel
theorem d_M_isDigit_13 : decode b_M_isDigit 13 = .ok (.goto 4, 3) := by decide +kernel
theorem d_M_isDigit_16 : decode b_M_isDigit 16 = .ok (.iconst 0, 1) := by decide +kernel
theorem d_M_isDigit_17 : decode b_M_isDigit 17 = .ok (.ireturn, 1) := by decide +kernel
theorem d_M_letter_0 : decode b_M_letter 0 = .ok (.iload_n 1, 1) := by decide +kernel
theorem d_M_letter_1 : decode b_M_letter 1 = .ok (.aload_n 0, 1) := by decide +kernel
theorem d_M_letter_2 : decode b_M_letter 2 = .ok (.getfield 259, 3) := by decide +kernel
theorem d_M_letter_5 : decode b_M_letter 5 = .ok (.if_icmp .ge 12, 3) := by decide +kernel
theorem d_M_letter_8 : decode b_M_letter 8 = .ok (.aload_n 0, 1) := by decide +kernel
theorem d_M_letter_9 : decode b_M_letter 9 = .ok (.getfield 20, 3) := by decide +kernel
theorem d_M_letter_12 : decode b_M_letter 12 = .ok (.iload_n 1, 1) := by decide +kernel
theorem d_M_letter_13 : decode b_M_letter 13 = .ok (.iaload, 1) := by decide +kernel
theorem d_M_letter_14 : decode b_M_letter 14 = .ok (.goto 4, 3) := by decide +kernel
theorem d_M_letter_17 : decode b_M_letter 17 = .ok (.iconst 0, 1) := by decide +kernel
theorem d_M_letter_18 : decode b_M_letter 18 = .ok (.ireturn, 1) := by decide +kernel
theorem d_M_scanKeyword_0 : decode b_M_scanKeyword 0 = .ok (.iload_n 1, 1) := by decide +kernel
theorem d_M_scanKeyword_1 : decode b_M_scanKeyword 1 = .ok (.istore_n 2, 1) := by decide +kernel
theorem d_M_scanKeyword_2 : decode b_M_scanKeyword 2 = .ok (.lconst 0, 1) := by decide +kernel
theorem d_M_scanKeyword_3 : decode b_M_scanKeyword 3 = .ok (.lstore_n 3, 1) := by decide +kernel
theorem d_M_scanKeyword_4 : decode b_M_scanKeyword 4 = .ok (.aload_n 0, 1) := by decide +kernel
theorem d_M_scanKeyword_5 : decode b_M_scanKeyword 5 = .ok (.iload_n 2, 1) := by decide +kernel
theorem d_M_scanKeyword_6 : decode b_M_scanKeyword 6 = .ok (.invokevirtual 288, 3) := by decide +kernel
theorem d_M_scanKeyword_9 : decode b_M_scanKeyword 9 = .ok (.invokestatic 265, 3) := by decide +kernel
theorem d_M_scanKeyword_12 : decode b_M_scanKeyword 12 = .ok (.ifCond .eq 27, 3) := by decide +kernel
theorem d_M_scanKeyword_15 : decode b_M_scanKeyword 15 = .ok (.iload_n 2, 1) := by decide +kernel
theorem d_M_scanKeyword_16 : decode b_M_scanKeyword 16 = .ok (.iload_n 1, 1) := by decide +kernel
theorem d_M_scanKeyword_17 : decode b_M_scanKeyword 17 = .ok (.isub, 1) := by decide +kernel
theorem d_M_scanKeyword_18 : decode b_M_scanKeyword 18 = .ok (.bipush 10, 2) := by decide +kernel
theorem d_M_scanKeyword_20 : decode b_M_scanKeyword 20 = .ok (.if_icmp .ge 13, 3) := by decide +kernel
theorem d_M_scanKeyword_23 : decode b_M_scanKeyword 23 = .ok (.lload_n 3, 1) := by decide +kernel
theorem d_M_scanKeyword_24 : decode b_M_scanKeyword 24 = .ok (.aload_n 0, 1) := by decide +kernel
theorem d_M_scanKeyword_25 : decode b_M_scanKeyword 25 = .ok (.iload_n 2, 1) := by decide +kernel
theorem d_M_scanKeyword_26 : decode b_M_scanKeyword 26 = .ok (.invokevirtual 288, 3) := by decide +kernel
theorem d_M_scanKeyword_29 : decode b_M_scanKeyword 29 = .ok (.invokestatic 242, 3) := by decide +kernel
theorem d_M_scanKeyword_32 : decode b_M_scanKeyword 32 = .ok (.lstore_n 3, 1) := by decide +kernel
theorem d_M_scanKeyword_33 : decode b_M_scanKeyword 33 = .ok (.iinc 2 1, 3) := by decide +kernel
theorem d_M_scanKeyword_36 : decode b_M_scanKeyword 36 = .ok (.goto (-32), 3) := by decide +kernel
theorem d_M_scanKeyword_39 : decode b_M_scanKeyword 39 = .ok (.aload_n 0, 1) := by decide +kernel
theorem d_M_scanKeyword_40 : decode b_M_scanKeyword 40 = .ok (.getfield 26, 3) := by decide +kernel
theorem d_M_scanKeyword_43 : decode b_M_scanKeyword 43 = .ok (.aload_n 0, 1) := by decide +kernel
theorem d_M_scanKeyword_44 : decode b_M_scanKeyword 44 = .ok (.getfield 262, 3) := by decide +kernel
theorem d_M_scanKeyword_47 : decode b_M_scanKeyword 47 = .ok (.iconst 0, 1) := by decide +kernel
theorem d_M_scanKeyword_48 : decode b_M_scanKeyword 48 = .ok (.iastore, 1) := by decide +kernel
theorem d_M_scanKeyword_49 : decode b_M_scanKeyword 49 = .ok (.iconst 1, 1) := by decide +kernel
theorem d_M_scanKeyword_50 : decode b_M_scanKeyword 50 = .ok (.istore 5, 2) := by decide +kernel
theorem d_M_scanKeyword_52 : decode b_M_scanKeyword 52 = .ok (.iload 5, 2) := by decide +kernel
theorem d_M_scanKeyword_54 : decode b_M_scanKeyword 54 = .ok (.bipush 26, 2) := by decide +kernel
theorem d_M_scanKeyword_56 : decode b_M_scanKeyword 56 = .ok (.if_icmp .ge 40, 3) := by decide +kernel
theorem d_M_scanKeyword_59 : decode b_M_scanKeyword 59 = .ok (.aload_n 0, 1) := by decide +kernel
theorem d_M_scanKeyword_60 : decode b_M_scanKeyword 60 = .ok (.getfield 23, 3) := by decide +kernel
theorem d_M_scanKeyword_63 : decode b_M_scanKeyword 63 = .ok (.iload 5, 2) := by decide +kernel
theorem d_M_scanKeyword_65 : decode b_M_scanKeyword 65 = .ok (.laload, 1) := by decide +kernel
theorem d_M_scanKeyword_66 : decode b_M_scanKeyword 66 = .ok (.lload_n 3, 1) := by decide +kernel
theorem d_M_scanKeyword_67 : decode b_M_scanKeyword 67 = .ok (.lcmp, 1) := by decide +kernel
theorem d_M_scanKeyword_68 : decode b_M_scanKeyword 68 = .ok (.ifCond .ne 22, 3) := by decide +kernel
theorem d_M_scanKeyword_71 : decode b_M_scanKeyword 71 = .ok (.iload_n 2, 1) := by decide +kernel
theorem d_M_scanKeyword_72 : decode b_M_scanKeyword 72 = .ok (.iload_n 1, 1) := by decide +kernel
theorem d_M_scanKeyword_73 : decode b_M_scanKeyword 73 = .ok (.isub, 1) := by decide +kernel
theorem d_M_scanKeyword_74 : decode b_M_scanKeyword 74 = .ok (.bipush 10, 2) := by decide +kernel
theorem d_M_scanKeyword_76 : decode b_M_scanKeyword 76 = .ok (.if_icmp .ge 14, 3) := by decide +kernel
theorem d_M_scanKeyword_79 : decode b_M_scanKeyword 79 = .ok (.aload_n 0, 1) := by decide +kernel
theorem d_M_scanKeyword_80 : decode b_M_scanKeyword 80 = .ok (.getfield 26, 3) := by decide +kernel
theorem d_M_scanKeyword_83 : decode b_M_scanKeyword 83 = .ok (.aload_n 0, 1) := by decide +kernel
theorem d_M_scanKeyword_84 : decode b_M_scanKeyword 84 = .ok (.getfield 262, 3) := by decide +kernel
theorem d_M_scanKeyword_87 : decode b_M_scanKeyword 87 = .ok (.iload 5, 2) := by decide +kernel
theorem d_M_scanKeyword_89 : decode b_M_scanKeyword 89 = .ok (.iastore, 1) := by decide +kernel
theorem d_M_scanKeyword_90 : decode b_M_scanKeyword 90 = .ok (.iinc 5 1, 3) := by decide +kernel
theorem d_M_scanKeyword_93 : decode b_M_scanKeyword 93 = .ok (.goto (-41), 3) := by decide +kernel
theorem d_M_scanKeyword_96 : decode b_M_scanKeyword 96 = .ok (.iload_n 2, 1) := by decide +kernel
theorem d_M_scanKeyword_97 : decode b_M_scanKeyword 97 = .ok (.ireturn, 1) := by decide +kernel
theorem d_M_scanName_0 : decode b_M_scanName 0 = .ok (.iload_n 1, 1) := by decide +kernel
theorem d_M_scanName_1 : decode b_M_scanName 1 = .ok (.istore_n 2, 1) := by decide +kernel
theorem d_M_scanName_2 : decode b_M_scanName 2 = .ok (.lconst 0, 1) := by decide +kernel
theorem d_M_scanName_3 : decode b_M_scanName 3 = .ok (.lstore_n 3, 1) := by decide +kernel
theorem d_M_scanName_4 : decode b_M_scanName 4 = .ok (.aload_n 0, 1) := by decide +kernel
theorem d_M_scanName_5 : decode b_M_scanName 5 = .ok (.iload_n 2, 1) := by decide +kernel
theorem d_M_scanName_6 : decode b_M_scanName 6 = .ok (.invokevirtual 288, 3) := by decide +kernel
theorem d_M_scanName_9 : decode b_M_scanName 9 = .ok (.invokestatic 273, 3) := by decide +kernel
theorem d_M_scanName_12 : decode b_M_scanName 12 = .ok (.ifCond .ne 14, 3) := by decide +kernel
theorem d_M_scanName_15 : decode b_M_scanName 15 = .ok (.aload_n 0, 1) := by decide +kernel
theorem d_M_scanName_16 : decode b_M_scanName 16 = .ok (.iload_n 2, 1) := by decide +kernel
theorem d_M_scanName_17 : decode b_M_scanName 17 = .ok (.invokevirtual 288, 3) := by decide +kernel
theorem d_M_scanName_20 : decode b_M_scanName 20 = .ok (.invokestatic 279, 3) := by decide +kernel
theorem d_M_scanName_23 : decode b_M_scanName 23 = .ok (.ifCond .eq 55, 3) := by decide +kernel
theorem d_M_scanName_26 : decode b_M_scanName 26 = .ok (.iload_n 2, 1) := by decide +kernel
theorem d_M_scanName_27 : decode b_M_scanName 27 = .ok (.iload_n 1, 1) := by decide +kernel
theorem d_M_scanName_28 : decode b_M_scanName 28 = .ok (.isub, 1) := by decide +kernel
theorem d_M_scanName_29 : decode b_M_scanName 29 = .ok (.bipush 6, 2) := by decide +kernel
theorem d_M_scanName_31 : decode b_M_scanName 31 = .ok (.if_icmp .ge 41, 3) := by decide +kernel
theorem d_M_scanName_34 : decode b_M_scanName 34 = .ok (.ldc2_w 291, 3) := by decide +kernel
theorem d_M_scanName_37 : decode b_M_scanName 37 = .ok (.lload_n 3, 1) := by decide +kernel
theorem d_M_scanName_38 : decode b_M_scanName 38 = .ok (.lmul, 1) := by decide +kernel
theorem d_M_scanName_39 : decode b_M_scanName 39 = .ok (.aload_n 0, 1) := by decide +kernel
theorem d_M_scanName_40 : decode b_M_scanName 40 = .ok (.iload_n 2, 1) := by decide +kernel
theorem d_M_scanName_41 : decode b_M_scanName 41 = .ok (.invokevirtual 288, 3) := by decide +kernel
theorem d_M_scanName_44 : decode b_M_scanName 44 = .ok (.invokestatic 279, 3) := by decide +kernel
theorem d_M_scanName_47 : decode b_M_scanName 47 = .ok (.ifCond .eq 14, 3) := by decide +kernel
theorem d_M_scanName_50 : decode b_M_scanName 50 = .ok (.aload_n 0, 1) := by decide +kernel
theorem d_M_scanName_51 : decode b_M_scanName 51 = .ok (.iload_n 2, 1) := by decide +kernel
theorem d_M_scanName_52 : decode b_M_scanName 52 = .ok (.invokevirtual 288, 3) := by decide +kernel
theorem d_M_scanName_55 : decode b_M_scanName 55 = .ok (.bipush 21, 2) := by decide +kernel
theorem d_M_scanName_57 : decode b_M_scanName 57 = .ok (.isub, 1) := by decide +kernel
theorem d_M_scanName_58 : decode b_M_scanName 58 = .ok (.goto 11, 3) := by decide +kernel
theorem d_M_scanName_61 : decode b_M_scanName 61 = .ok (.aload_n 0, 1) := by decide +kernel
theorem d_M_scanName_62 : decode b_M_scanName 62 = .ok (.iload_n 2, 1) := by decide +kernel
theorem d_M_scanName_63 : decode b_M_scanName 63 = .ok (.invokevirtual 288, 3) := by decide +kernel
theorem d_M_scanName_66 : decode b_M_scanName 66 = .ok (.bipush 96, 2) := by decide +kernel
theorem d_M_scanName_68 : decode b_M_scanName 68 = .ok (.isub, 1) := by decide +kernel
theorem d_M_scanName_69 : decode b_M_scanName 69 = .ok (.i2l, 1) := by decide +kernel
theorem d_M_scanName_70 : decode b_M_scanName 70 = .ok (.ladd, 1) := by decide +kernel
theorem d_M_scanName_71 : decode b_M_scanName 71 = .ok (.lstore_n 3, 1) := by decide +kernel
theorem d_M_scanName_72 : decode b_M_scanName 72 = .ok (.iinc 2 1, 3) := by decide +kernel
theorem d_M_scanName_75 : decode b_M_scanName 75 = .ok (.goto (-71), 3) := by decide +kernel
theorem d_M_scanName_78 : decode b_M_scanName 78 = .ok (.aload_n 0, 1) := by decide +kernel
theorem d_M_scanName_79 : decode b_M_scanName 79 = .ok (.getfield 26, 3) := by decide +kernel
theorem d_M_scanName_82 : decode b_M_scanName 82 = .ok (.aload_n 0, 1) := by decide +kernel
theorem d_M_scanName_83 : decode b_M_scanName 83 = .ok (.getfield 262, 3) := by decide +kernel
theorem d_M_scanName_86 : decode b_M_scanName 86 = .ok (.iload_n 2, 1) := by decide +kernel
theorem d_M_scanName_87 : decode b_M_scanName 87 = .ok (.iload_n 1, 1) := by decide +kernel
theorem d_M_scanName_88 : decode b_M_scanName 88 = .ok (.isub, 1) := by decide +kernel
theorem d_M_scanName_89 : decode b_M_scanName 89 = .ok (.bipush 6, 2) := by decide +kernel
theorem d_M_scanName_91 : decode b_M_scanName 91 = .ok (.if_icmp .le 7, 3) := by decide +kernel
theorem d_M_scanName_94 : decode b_M_scanName 94 = .ok (.iconst 0, 1) := by decide +kernel
theorem d_M_scanName_95 : decode b_M_scanName 95 = .ok (.goto 5, 3) := by decide +kernel
theorem d_M_scanName_98 : decode b_M_scanName 98 = .ok (.bipush 30, 2) := by decide +kernel
theorem d_M_scanName_100 : decode b_M_scanName 100 = .ok (.iastore, 1) := by decide +kernel
theorem d_M_scanName_101 : decode b_M_scanName 101 = .ok (.aload_n 0, 1) := by decide +kernel
theorem d_M_scanName_102 : decode b_M_scanName 102 = .ok (.getfield 32, 3) := by decide +kernel
theorem d_M_scanName_105 : decode b_M_scanName 105 = .ok (.aload_n 0, 1) := by decide +kernel
theorem d_M_scanName_106 : decode b_M_scanName 106 = .ok (.getfield 262, 3) := by decide +kernel
theorem d_M_scanName_109 : decode b_M_scanName 109 = .ok (.lload_n 3, 1) := by decide +kernel
theorem d_M_scanName_110 : decode b_M_scanName 110 = .ok (.lastore, 1) := by decide +kernel
theorem d_M_scanName_111 : decode b_M_scanName 111 = .ok (.iload_n 2, 1) := by decide +kernel
theorem d_M_scanName_112 : decode b_M_scanName 112 = .ok (.ireturn, 1) := by decide +kernel
theorem d_M_scanNumber_0 : decode b_M_scanNumber 0 = .ok (.iload_n 1, 1) := by decide +kernel
theorem d_M_scanNumber_1 : decode b_M_scanNumber 1 = .ok (.istore_n 2, 1) := by decide +kernel
theorem d_M_scanNumber_2 : decode b_M_scanNumber 2 = .ok (.lconst 0, 1) := by decide +kernel
theorem d_M_scanNumber_3 : decode b_M_scanNumber 3 = .ok (.lstore_n 3, 1) := by decide +kernel
theorem d_M_scanNumber_4 : decode b_M_scanNumber 4 = .ok (.aload_n 0, 1) := by decide +kernel
theorem d_M_scanNumber_5 : decode b_M_scanNumber 5 = .ok (.iload_n 2, 1) := by decide +kernel
theorem d_M_scanNumber_6 : decode b_M_scanNumber 6 = .ok (.invokevirtual 288, 3) := by decide +kernel
theorem d_M_scanNumber_9 : decode b_M_scanNumber 9 = .ok (.invokestatic 279, 3) := by decide +kernel
theorem d_M_scanNumber_12 : decode b_M_scanNumber 12 = .ok (.ifCond .eq 33, 3) := by decide +kernel
theorem d_M_scanNumber_15 : decode b_M_scanNumber 15 = .ok (.iload_n 2, 1) := by decide +kernel
theorem d_M_scanNumber_16 : decode b_M_scanNumber 16 = .ok (.iload_n 1, 1) := by decide +kernel
theorem d_M_scanNumber_17 : decode b_M_scanNumber 17 = .ok (.isub, 1) := by decide +kernel
theorem d_M_scanNumber_18 : decode b_M_scanNumber 18 = .ok (.iconst 4, 1) := by decide +kernel
theorem d_M_scanNumber_19 : decode b_M_scanNumber 19 = .ok (.if_icmp .ge 20, 3) := by decide +kernel
theorem d_M_scanNumber_22 : decode b_M_scanNumber 22 = .ok (.ldc2_w 293, 3) := by decide +kernel
theorem d_M_scanNumber_25 : decode b_M_scanNumber 25 = .ok (.lload_n 3, 1) := by decide +kernel
theorem d_M_scanNumber_26 : decode b_M_scanNumber 26 = .ok (.lmul, 1) := by decide +kernel
theorem d_M_scanNumber_27 : decode b_M_scanNumber 27 = .ok (.aload_n 0, 1) := by decide +kernel
theorem d_M_scanNumber_28 : decode b_M_scanNumber 28 = .ok (.iload_n 2, 1) := by decide +kernel
theorem d_M_scanNumber_29 : decode b_M_scanNumber 29 = .ok (.invokevirtual 288, 3) := by decide +kernel
theorem d_M_scanNumber_32 : decode b_M_scanNumber 32 = .ok (.i2l, 1) := by decide +kernel
theorem d_M_scanNumber_33 : decode b_M_scanNumber 33 = .ok (.ladd, 1) := by decide +kernel
theorem d_M_scanNumber_34 : decode b_M_scanNumber 34 = .ok (.ldc2_w 295, 3) := by decide +kernel
theorem d_M_scanNumber_37 : decode b_M_scanNumber 37 = .ok (.lsub, 1) := by decide +kernel
theorem d_M_scanNumber_38 : decode b_M_scanNumber 38 = .ok (.lstore_n 3, 1) := by decide +kernel
theorem d_M_scanNumber_39 : decode b_M_scanNumber 39 = .ok (.iinc 2 1, 3) := by decide +kernel
theorem d_M_scanNumber_42 : decode b_M_scanNumber 42 = .ok (.goto (-38), 3) := by decide +kernel
theorem d_M_scanNumber_45 : decode b_M_scanNumber 45 = .ok (.aload_n 0, 1) := by decide +kernel
theorem d_M_scanNumber_46 : decode b_M_scanNumber 46 = .ok (.getfield 26, 3) := by decide +kernel
theorem d_M_scanNumber_49 : decode b_M_scanNumber 49 = .ok (.aload_n 0, 1) := by decide +kernel
theorem d_M_scanNumber_50 : decode b_M_scanNumber 50 = .ok (.getfield 262, 3) := by decide +kernel
theorem d_M_scanNumber_53 : decode b_M_scanNumber 53 = .ok (.iload_n 2, 1) := by decide +kernel
theorem d_M_scanNumber_54 : decode b_M_scanNumber 54 = .ok (.iload_n 1, 1) := by decide +kernel
theorem d_M_scanNumber_55 : decode b_M_scanNumber 55 = .ok (.isub, 1) := by decide +kernel
theorem d_M_scanNumber_56 : decode b_M_scanNumber 56 = .ok (.iconst 4, 1) := by decide +kernel
theorem d_M_scanNumber_57 : decode b_M_scanNumber 57 = .ok (.if_icmp .le 7, 3) := by decide +kernel
theorem d_M_scanNumber_60 : decode b_M_scanNumber 60 = .ok (.iconst 0, 1) := by decide +kernel
theorem d_M_scanNumber_61 : decode b_M_scanNumber 61 = .ok (.goto 5, 3) := by decide +kernel
theorem d_M_scanNumber_64 : decode b_M_scanNumber 64 = .ok (.bipush 31, 2) := by decide +kernel
theorem d_M_scanNumber_66 : decode b_M_scanNumber 66 = .ok (.iastore, 1) := by decide +kernel
theorem d_M_scanNumber_67 : decode b_M_scanNumber 67 = .ok (.aload_n 0, 1) := by decide +kernel
theorem d_M_scanNumber_68 : decode b_M_scanNumber 68 = .ok (.getfield 32, 3) := by decide +kernel
theorem d_M_scanNumber_71 : decode b_M_scanNumber 71 = .ok (.aload_n 0, 1) := by decide +kernel
theorem d_M_scanNumber_72 : decode b_M_scanNumber 72 = .ok (.getfield 262, 3) := by decide +kernel
theorem d_M_scanNumber_75 : decode b_M_scanNumber 75 = .ok (.lload_n 3, 1) := by decide +kernel
theorem d_M_scanNumber_76 : decode b_M_scanNumber 76 = .ok (.lastore, 1) := by decide +kernel
theorem d_M_scanNumber_77 : decode b_M_scanNumber 77 = .ok (.iload_n 2, 1) := by decide +kernel
theorem d_M_scanNumber_78 : decode b_M_scanNumber 78 = .ok (.ireturn, 1) := by decide +kernel
theorem d_M_scanSign_0 : decode b_M_scanSign 0 = .ok (.aload_n 0, 1) := by decide +kernel
theorem d_M_scanSign_1 : decode b_M_scanSign 1 = .ok (.getfield 20, 3) := by decide +kernel
theorem d_M_scanSign_4 : decode b_M_scanSign 4 = .ok (.iload_n 1, 1) := by decide +kernel
theorem d_M_scanSign_5 : decode b_M_scanSign 5 = .ok (.iaload, 1) := by decide +kernel
theorem d_M_scanSign_6 : decode b_M_scanSign 6 = .ok (.istore_n 2, 1) := by decide +kernel
theorem d_M_scanSign_7 : decode b_M_scanSign 7 = .ok (.iload_n 2, 1) := by decide +kernel
theorem d_M_scanSign_8 : decode b_M_scanSign 8 = .ok (.bipush 60, 2) := by decide +kernel
theorem d_M_scanSign_10 : decode b_M_scanSign 10 = .ok (.if_icmp .ne 30, 3) := by decide +kernel
theorem d_M_scanSign_13 : decode b_M_scanSign 13 = .ok (.aload_n 0, 1) := by decide +kernel
theorem d_M_scanSign_14 : decode b_M_scanSign 14 = .ok (.iload_n 1, 1) := by decide +kernel
theorem d_M_scanSign_15 : decode b_M_scanSign 15 = .ok (.iconst 1, 1) := by decide +kernel
theorem d_M_scanSign_16 : decode b_M_scanSign 16 = .ok (.iadd, 1) := by decide +kernel
theorem d_M_scanSign_17 : decode b_M_scanSign 17 = .ok (.invokevirtual 288, 3) := by decide +kernel
theorem d_M_scanSign_20 : decode b_M_scanSign 20 = .ok (.bipush 62, 2) := by decide +kernel
theorem d_M_scanSign_22 : decode b_M_scanSign 22 = .ok (.if_icmp .ne 18, 3) := by decide +kernel
theorem d_M_scanSign_25 : decode b_M_scanSign 25 = .ok (.aload_n 0, 1) := by decide +kernel
theorem d_M_scanSign_26 : decode b_M_scanSign 26 = .ok (.getfield 26, 3) := by decide +kernel
theorem d_M_scanSign_29 : decode b_M_scanSign 29 = .ok (.aload_n 0, 1) := by decide +kernel
theorem d_M_scanSign_30 : decode b_M_scanSign 30 = .ok (.getfield 262, 3) := by decide +kernel
theorem d_M_scanSign_33 : decode b_M_scanSign 33 = .ok (.bipush 32, 2) := by decide +kernel
theorem d_M_scanSign_35 : decode b_M_scanSign 35 = .ok (.iastore, 1) := by decide +kernel
theorem d_M_scanSign_36 : decode b_M_scanSign 36 = .ok (.iload_n 1, 1) := by decide +kernel
theorem d_M_scanSign_37 : decode b_M_scanSign 37 = .ok (.iconst 2, 1) := by decide +kernel
theorem d_M_scanSign_38 : decode b_M_scanSign 38 = .ok (.iadd, 1) := by decide +kernel
theorem d_M_scanSign_39 : decode b_M_scanSign 39 = .ok (.ireturn, 1) := by decide +kernel
theorem d_M_scanSign_40 : decode b_M_scanSign 40 = .ok (.iload_n 2, 1) := by decide +kernel
theorem d_M_scanSign_41 : decode b_M_scanSign 41 = .ok (.bipush 44, 2) := by decide +kernel
theorem d_M_scanSign_43 : decode b_M_scanSign 43 = .ok (.if_icmp .eq 57, 3) := by decide +kernel
theorem d_M_scanSign_46 : decode b_M_scanSign 46 = .ok (.iload_n 2, 1) := by decide +kernel
theorem d_M_scanSign_47 : decode b_M_scanSign 47 = .ok (.bipush 40, 2) := by decide +kernel
theorem d_M_scanSign_49 : decode b_M_scanSign 49 = .ok (.if_icmp .eq 51, 3) := by decide +kernel
theorem d_M_scanSign_52 : decode b_M_scanSign 52 = .ok (.iload_n 2, 1) := by decide +kernel
theorem d_M_scanSign_53 : decode b_M_scanSign 53 = .ok (.bipush 41, 2) := by decide +kernel
theorem d_M_scanSign_55 : decode b_M_scanSign 55 = .ok (.if_icmp .eq 45, 3) := by decide +kernel
theorem d_M_scanSign_58 : decode b_M_scanSign 58 = .ok (.iload_n 2, 1) := by decide +kernel
theorem d_M_scanSign_59 : decode b_M_scanSign 59 = .ok (.bipush 46, 2) := by decide +kernel
theorem d_M_scanSign_61 : decode b_M_scanSign 61 = .ok (.if_icmp .eq 39, 3) := by decide +kernel
theorem d_M_scanSign_64 : decode b_M_scanSign 64 = .ok (.iload_n 2, 1) := by decide +kernel
theorem d_M_scanSign_65 : decode b_M_scanSign 65 = .ok (.bipush 43, 2) := by decide +kernel
theorem d_M_scanSign_67 : decode b_M_scanSign 67 = .ok (.if_icmp .eq 33, 3) := by decide +kernel
theorem d_M_scanSign_70 : decode b_M_scanSign 70 = .ok (.iload_n 2, 1) := by decide +kernel
theorem d_M_scanSign_71 : decode b_M_scanSign 71 = .ok (.bipush 45, 2) := by decide +kernel
theorem d_M_scanSign_73 : decode b_M_scanSign 73 = .ok (.if_icmp .eq 27, 3) := by decide +kernel
theorem d_M_scanSign_76 : decode b_M_scanSign 76 = .ok (.iload_n 2, 1) := by decide +kernel
theorem d_M_scanSign_77 : decode b_M_scanSign 77 = .ok (.bipush 61, 2) := by decide +kernel
theorem d_M_scanSign_79 : decode b_M_scanSign 79 = .ok (.if_icmp .eq 21, 3) := by decide +kernel
theorem d_M_scanSign_82 : decode b_M_scanSign 82 = .ok (.iload_n 2, 1) := by decide +kernel
theorem d_M_scanSign_83 : decode b_M_scanSign 83 = .ok (.bipush 60, 2) := by decide +kernel
theorem d_M_scanSign_85 : decode b_M_scanSign 85 = .ok (.if_icmp .eq 15, 3) := by decide +kernel
theorem d_M_scanSign_88 : decode b_M_scanSign 88 = .ok (.iload_n 2, 1) := by decide +kernel
theorem d_M_scanSign_89 : decode b_M_scanSign 89 = .ok (.bipush 62, 2) := by decide +kernel
theorem d_M_scanSign_91 : decode b_M_scanSign 91 = .ok (.if_icmp .eq 9, 3) := by decide +kernel
theorem d_M_scanSign_94 : decode b_M_scanSign 94 = .ok (.iload_n 2, 1) := by decide +kernel
theorem d_M_scanSign_95 : decode b_M_scanSign 95 = .ok (.bipush 42, 2) := by decide +kernel
theorem d_M_scanSign_97 : decode b_M_scanSign 97 = .ok (.if_icmp .ne 7, 3) := by decide +kernel
theorem d_M_scanSign_100 : decode b_M_scanSign 100 = .ok (.iconst 1, 1) := by decide +kernel
theorem d_M_scanSign_101 : decode b_M_scanSign 101 = .ok (.goto 4, 3) := by decide +kernel
theorem d_M_scanSign_104 : decode b_M_scanSign 104 = .ok (.iconst 0, 1) := by decide +kernel
theorem d_M_scanSign_105 : decode b_M_scanSign 105 = .ok (.istore_n 3, 1) := by decide +kernel
theorem d_M_scanSign_106 : decode b_M_scanSign 106 = .ok (.aload_n 0, 1) := by decide +kernel
theorem d_M_scanSign_107 : decode b_M_scanSign 107 = .ok (.getfield 26, 3) := by decide +kernel
theorem d_M_scanSign_110 : decode b_M_scanSign 110 = .ok (.aload_n 0, 1) := by decide +kernel
theorem d_M_scanSign_111 : decode b_M_scanSign 111 = .ok (.getfield 262, 3) := by decide +kernel
theorem d_M_scanSign_114 : decode b_M_scanSign 114 = .ok (.iload_n 3, 1) := by decide +kernel
theorem d_M_scanSign_115 : decode b_M_scanSign 115 = .ok (.ifCond .eq 10, 3) := by decide +kernel
theorem d_M_scanSign_118 : decode b_M_scanSign 118 = .ok (.bipush 100, 2) := by decide +kernel
theorem d_M_scanSign_120 : decode b_M_scanSign 120 = .ok (.iload_n 2, 1) := by decide +kernel
theorem d_M_scanSign_121 : decode b_M_scanSign 121 = .ok (.iadd, 1) := by decide +kernel
theorem d_M_scanSign_122 : decode b_M_scanSign 122 = .ok (.goto 4, 3) := by decide +kernel
theorem d_M_scanSign_125 : decode b_M_scanSign 125 = .ok (.iconst 0, 1) := by decide +kernel
theorem d_M_scanSign_126 : decode b_M_scanSign 126 = .ok (.iastore, 1) := by decide +kernel
theorem d_M_scanSign_127 : decode b_M_scanSign 127 = .ok (.iload_n 1, 1) := by decide +kernel
theorem d_M_scanSign_128 : decode b_M_scanSign 128 = .ok (.iconst 1, 1) := by decide +kernel
theorem d_M_scanSign_129 : decode b_M_scanSign 129 = .ok (.iadd, 1) := by decide +kernel
theorem d_M_scanSign_130 : decode b_M_scanSign 130 = .ok (.ireturn, 1) := by decide +kernel
theorem d_M_scan_0 : decode b_M_scan 0 = .ok (.aload_n 0, 1) := by decide +kernel
theorem d_M_scan_1 : decode b_M_scan 1 = .ok (.iconst 0, 1) := by decide +kernel
theorem d_M_scan_2 : decode b_M_scan 2 = .ok (.putfield 262, 3) := by decide +kernel
theorem d_M_scan_5 : decode b_M_scan 5 = .ok (.iconst 0, 1) := by decide +kernel
theorem d_M_scan_6 : decode b_M_scan 6 = .ok (.istore_n 1, 1) := by decide +kernel
theorem d_M_scan_7 : decode b_M_scan 7 = .ok (.iload_n 1, 1) := by decide +kernel
theorem d_M_scan_8 : decode b_M_scan 8 = .ok (.aload_n 0, 1) := by decide +kernel
theorem d_M_scan_9 : decode b_M_scan 9 = .ok (.getfield 259, 3) := by decide +kernel
theorem d_M_scan_12 : decode b_M_scan 12 = .ok (.if_icmp .ge 106, 3) := by decide +kernel
theorem d_M_scan_15 : decode b_M_scan 15 = .ok (.aload_n 0, 1) := by decide +kernel
theorem d_M_scan_16 : decode b_M_scan 16 = .ok (.getfield 20, 3) := by decide +kernel
theorem d_M_scan_19 : decode b_M_scan 19 = .ok (.iload_n 1, 1) := by decide +kernel
theorem d_M_scan_20 : decode b_M_scan 20 = .ok (.iaload, 1) := by decide +kernel
theorem d_M_scan_21 : decode b_M_scan 21 = .ok (.istore_n 2, 1) := by decide +kernel
theorem d_M_scan_22 : decode b_M_scan 22 = .ok (.iload_n 2, 1) := by decide +kernel
theorem d_M_scan_23 : decode b_M_scan 23 = .ok (.bipush 32, 2) := by decide +kernel
theorem d_M_scan_25 : decode b_M_scan 25 = .ok (.if_icmp .ne 9, 3) := by decide +kernel
theorem d_M_scan_28 : decode b_M_scan 28 = .ok (.iinc 1 1, 3) := by decide +kernel
theorem d_M_scan_31 : decode b_M_scan 31 = .ok (.goto (-24), 3) := by decide +kernel
theorem d_M_scan_34 : decode b_M_scan 34 = .ok (.aload_n 0, 1) := by decide +kernel
theorem d_M_scan_35 : decode b_M_scan 35 = .ok (.getfield 29, 3) := by decide +kernel
theorem d_M_scan_38 : decode b_M_scan 38 = .ok (.aload_n 0, 1) := by decide +kernel
theorem d_M_scan_39 : decode b_M_scan 39 = .ok (.getfield 262, 3) := by decide +kernel
theorem d_M_scan_42 : decode b_M_scan 42 = .ok (.iload_n 1, 1) := by decide +kernel
theorem d_M_scan_43 : decode b_M_scan 43 = .ok (.iastore, 1) := by decide +kernel
theorem d_M_scan_44 : decode b_M_scan 44 = .ok (.aload_n 0, 1) := by decide +kernel
theorem d_M_scan_45 : decode b_M_scan 45 = .ok (.getfield 32, 3) := by decide +kernel
theorem d_M_scan_48 : decode b_M_scan 48 = .ok (.aload_n 0, 1) := by decide +kernel
theorem d_M_scan_49 : decode b_M_scan 49 = .ok (.getfield 262, 3) := by decide +kernel
theorem d_M_scan_52 : decode b_M_scan 52 = .ok (.lconst 0, 1) := by decide +kernel
theorem d_M_scan_53 : decode b_M_scan 53 = .ok (.lastore, 1) := by decide +kernel
theorem d_M_scan_54 : decode b_M_scan 54 = .ok (.iload_n 2, 1) := by decide +kernel
theorem d_M_scan_55 : decode b_M_scan 55 = .ok (.invokestatic 265, 3) := by decide +kernel
theorem d_M_scan_58 : decode b_M_scan 58 = .ok (.ifCond .eq 11, 3) := by decide +kernel
theorem d_M_scan_61 : decode b_M_scan 61 = .ok (.aload_n 0, 1) := by decide +kernel
theorem d_M_scan_62 : decode b_M_scan 62 = .ok (.iload_n 1, 1) := by decide +kernel
theorem d_M_scan_63 : decode b_M_scan 63 = .ok (.invokevirtual 269, 3) := by decide +kernel
theorem d_M_scan_66 : decode b_M_scan 66 = .ok (.goto 38, 3) := by decide +kernel
theorem d_M_scan_69 : decode b_M_scan 69 = .ok (.iload_n 2, 1) := by decide +kernel
theorem d_M_scan_70 : decode b_M_scan 70 = .ok (.invokestatic 273, 3) := by decide +kernel
theorem d_M_scan_73 : decode b_M_scan 73 = .ok (.ifCond .eq 11, 3) := by decide +kernel
theorem d_M_scan_76 : decode b_M_scan 76 = .ok (.aload_n 0, 1) := by decide +kernel
theorem d_M_scan_77 : decode b_M_scan 77 = .ok (.iload_n 1, 1) := by decide +kernel
theorem d_M_scan_78 : decode b_M_scan 78 = .ok (.invokevirtual 276, 3) := by decide +kernel
theorem d_M_scan_81 : decode b_M_scan 81 = .ok (.goto 23, 3) := by decide +kernel
theorem d_M_scan_84 : decode b_M_scan 84 = .ok (.iload_n 2, 1) := by decide +kernel
theorem d_M_scan_85 : decode b_M_scan 85 = .ok (.invokestatic 279, 3) := by decide +kernel
theorem d_M_scan_88 : decode b_M_scan 88 = .ok (.ifCond .eq 11, 3) := by decide +kernel
theorem d_M_scan_91 : decode b_M_scan 91 = .ok (.aload_n 0, 1) := by decide +kernel
theorem d_M_scan_92 : decode b_M_scan 92 = .ok (.iload_n 1, 1) := by decide +kernel
theorem d_M_scan_93 : decode b_M_scan 93 = .ok (.invokevirtual 282, 3) := by decide +kernel
theorem d_M_scan_96 : decode b_M_scan 96 = .ok (.goto 8, 3) := by decide +kernel
theorem d_M_scan_99 : decode b_M_scan 99 = .ok (.aload_n 0, 1) := by decide +kernel
theorem d_M_scan_100 : decode b_M_scan 100 = .ok (.iload_n 1, 1) := by decide +kernel
theorem d_M_scan_101 : decode b_M_scan 101 = .ok (.invokevirtual 285, 3) := by decide +kernel
theorem d_M_scan_104 : decode b_M_scan 104 = .ok (.istore_n 1, 1) := by decide +kernel
theorem d_M_scan_105 : decode b_M_scan 105 = .ok (.aload_n 0, 1) := by decide +kernel
theorem d_M_scan_106 : decode b_M_scan 106 = .ok (.dup, 1) := by decide +kernel
theorem d_M_scan_107 : decode b_M_scan 107 = .ok (.getfield 262, 3) := by decide +kernel
theorem d_M_scan_110 : decode b_M_scan 110 = .ok (.iconst 1, 1) := by decide +kernel
theorem d_M_scan_111 : decode b_M_scan 111 = .ok (.iadd, 1) := by decide +kernel
theorem d_M_scan_112 : decode b_M_scan 112 = .ok (.putfield 262, 3) := by decide +kernel
theorem d_M_scan_115 : decode b_M_scan 115 = .ok (.goto (-108), 3) := by decide +kernel
theorem d_M_scan_118 : decode b_M_scan 118 = .ok (.aload_n 0, 1) := by decide +kernel
theorem d_M_scan_119 : decode b_M_scan 119 = .ok (.getfield 26, 3) := by decide +kernel
theorem d_M_scan_122 : decode b_M_scan 122 = .ok (.aload_n 0, 1) := by decide +kernel
theorem d_M_scan_123 : decode b_M_scan 123 = .ok (.getfield 262, 3) := by decide +kernel
theorem d_M_scan_126 : decode b_M_scan 126 = .ok (.bipush 99, 2) := by decide +kernel
theorem d_M_scan_128 : decode b_M_scan 128 = .ok (.iastore, 1) := by decide +kernel
theorem d_M_scan_129 : decode b_M_scan 129 = .ok (.aload_n 0, 1) := by decide +kernel
theorem d_M_scan_130 : decode b_M_scan 130 = .ok (.getfield 29, 3) := by decide +kernel
theorem d_M_scan_133 : decode b_M_scan 133 = .ok (.aload_n 0, 1) := by decide +kernel
theorem d_M_scan_134 : decode b_M_scan 134 = .ok (.getfield 262, 3) := by decide +kernel
theorem d_M_scan_137 : decode b_M_scan 137 = .ok (.aload_n 0, 1) := by decide +kernel
theorem d_M_scan_138 : decode b_M_scan 138 = .ok (.getfield 259, 3) := by decide +kernel
theorem d_M_scan_141 : decode b_M_scan 141 = .ok (.iastore, 1) := by decide +kernel
theorem d_M_scan_142 : decode b_M_scan 142 = .ok (.return_, 1) := by decide +kernel
theorem d_M_note_0 : decode b_M_note 0 = .ok (.aload_n 0, 1) := by decide +kernel
theorem d_M_note_1 : decode b_M_note 1 = .ok (.getfield 297, 3) := by decide +kernel
theorem d_M_note_4 : decode b_M_note 4 = .ok (.ifCond .le 28, 3) := by decide +kernel
theorem d_M_note_7 : decode b_M_note 7 = .ok (.aload_n 0, 1) := by decide +kernel
theorem d_M_note_8 : decode b_M_note 8 = .ok (.getfield 297, 3) := by decide +kernel
theorem d_M_note_11 : decode b_M_note 11 = .ok (.iload_n 1, 1) := by decide +kernel
theorem d_M_note_12 : decode b_M_note 12 = .ok (.if_icmp .lt 19, 3) := by decide +kernel
theorem d_M_note_15 : decode b_M_note 15 = .ok (.aload_n 0, 1) := by decide +kernel
theorem d_M_note_16 : decode b_M_note 16 = .ok (.getfield 297, 3) := by decide +kernel
theorem d_M_note_19 : decode b_M_note 19 = .ok (.iload_n 1, 1) := by decide +kernel
theorem d_M_note_20 : decode b_M_note 20 = .ok (.if_icmp .ne 12, 3) := by decide +kernel
theorem d_M_note_23 : decode b_M_note 23 = .ok (.aload_n 0, 1) := by decide +kernel
theorem d_M_note_24 : decode b_M_note 24 = .ok (.getfield 300, 3) := by decide +kernel
theorem d_M_note_27 : decode b_M_note 27 = .ok (.iload_n 2, 1) := by decide +kernel
theorem d_M_note_28 : decode b_M_note 28 = .ok (.if_icmp .gt 4, 3) := by decide +kernel
theorem d_M_note_31 : decode b_M_note 31 = .ok (.return_, 1) := by decide +kernel
theorem d_M_note_32 : decode b_M_note 32 = .ok (.aload_n 0, 1) := by decide +kernel
theorem d_M_note_33 : decode b_M_note 33 = .ok (.iload_n 1, 1) := by decide +kernel
theorem d_M_note_34 : decode b_M_note 34 = .ok (.putfield 297, 3) := by decide +kernel
theorem d_M_note_37 : decode b_M_note 37 = .ok (.aload_n 0, 1) := by decide +kernel
theorem d_M_note_38 : decode b_M_note 38 = .ok (.iload_n 2, 1) := by decide +kernel
theorem d_M_note_39 : decode b_M_note 39 = .ok (.putfield 300, 3) := by decide +kernel
theorem d_M_note_42 : decode b_M_note 42 = .ok (.return_, 1) := by decide +kernel
theorem d_M_bad_0 : decode b_M_bad 0 = .ok (.aload_n 0, 1) := by decide +kernel
theorem d_M_bad_1 : decode b_M_bad 1 = .ok (.getfield 297, 3) := by decide +kernel
theorem d_M_bad_4 : decode b_M_bad 4 = .ok (.iconst 1, 1) := by decide +kernel
theorem d_M_bad_5 : decode b_M_bad 5 = .ok (.if_icmp .ne 7, 3) := by decide +kernel
theorem d_M_bad_8 : decode b_M_bad 8 = .ok (.iconst 1, 1) := by decide +kernel
theorem d_M_bad_9 : decode b_M_bad 9 = .ok (.goto 4, 3) := by decide +kernel
theorem d_M_bad_12 : decode b_M_bad 12 = .ok (.iconst 0, 1) := by decide +kernel
theorem d_M_bad_13 : decode b_M_bad 13 = .ok (.ireturn, 1) := by decide +kernel
theorem d_M_is_0 : decode b_M_is 0 = .ok (.aload_n 0, 1) := by decide +kernel
theorem d_M_is_1 : decode b_M_is 1 = .ok (.invokevirtual 303, 3) := by decide +kernel
theorem d_M_is_4 : decode b_M_is 4 = .ok (.ifCond .ne 20, 3) := by decide +kernel
theorem d_M_is_7 : decode b_M_is 7 = .ok (.aload_n 0, 1) := by decide +kernel
theorem d_M_is_8 : decode b_M_is 8 = .ok (.getfield 26, 3) := by decide +kernel
theorem d_M_is_11 : decode b_M_is 11 = .ok (.aload_n 0, 1) := by decide +kernel
theorem d_M_is_12 : decode b_M_is 12 = .ok (.getfield 307, 3) := by decide +kernel
theorem d_M_is_15 : decode b_M_is 15 = .ok (.iaload, 1) := by decide +kernel
theorem d_M_is_16 : decode b_M_is 16 = .ok (.iload_n 1, 1) := by decide +kernel
theorem d_M_is_17 : decode b_M_is 17 = .ok (.if_icmp .ne 7, 3) := by decide +kernel
theorem d_M_is_20 : decode b_M_is 20 = .ok (.iconst 1, 1) := by decide +kernel
theorem d_M_is_21 : decode b_M_is 21 = .ok (.goto 4, 3) := by decide +kernel
theorem d_M_is_24 : decode b_M_is 24 = .ok (.iconst 0, 1) := by decide +kernel
theorem d_M_is_25 : decode b_M_is 25 = .ok (.ireturn, 1) := by decide +kernel
theorem d_M_isSign_0 : decode b_M_isSign 0 = .ok (.aload_n 0, 1) := by decide +kernel
theorem d_M_isSign_1 : decode b_M_isSign 1 = .ok (.bipush 100, 2) := by decide +kernel
theorem d_M_isSign_3 : decode b_M_isSign 3 = .ok (.iload_n 1, 1) := by decide +kernel
theorem d_M_isSign_4 : decode b_M_isSign 4 = .ok (.iadd, 1) := by decide +kernel
theorem d_M_isSign_5 : decode b_M_isSign 5 = .ok (.invokevirtual 310, 3) := by decide +kernel
theorem d_M_isSign_8 : decode b_M_isSign 8 = .ok (.ireturn, 1) := by decide +kernel
theorem d_M_need_0 : decode b_M_need 0 = .ok (.aload_n 0, 1) := by decide +kernel
theorem d_M_need_1 : decode b_M_need 1 = .ok (.iload_n 1, 1) := by decide +kernel
theorem d_M_need_2 : decode b_M_need 2 = .ok (.invokevirtual 310, 3) := by decide +kernel
theorem d_M_need_5 : decode b_M_need 5 = .ok (.ifCond .eq 16, 3) := by decide +kernel
theorem d_M_need_8 : decode b_M_need 8 = .ok (.aload_n 0, 1) := by decide +kernel
theorem d_M_need_9 : decode b_M_need 9 = .ok (.dup, 1) := by decide +kernel
theorem d_M_need_10 : decode b_M_need 10 = .ok (.getfield 307, 3) := by decide +kernel
theorem d_M_need_13 : decode b_M_need 13 = .ok (.iconst 1, 1) := by decide +kernel
theorem d_M_need_14 : decode b_M_need 14 = .ok (.iadd, 1) := by decide +kernel
theorem d_M_need_15 : decode b_M_need 15 = .ok (.putfield 307, 3) := by decide +kernel
theorem d_M_need_18 : decode b_M_need 18 = .ok (.goto 24, 3) := by decide +kernel
theorem d_M_need_21 : decode b_M_need 21 = .ok (.aload_n 0, 1) := by decide +kernel
theorem d_M_need_22 : decode b_M_need 22 = .ok (.invokevirtual 303, 3) := by decide +kernel
theorem d_M_need_25 : decode b_M_need 25 = .ok (.ifCond .ne 17, 3) := by decide +kernel
theorem d_M_need_28 : decode b_M_need 28 = .ok (.aload_n 0, 1) := by decide +kernel
theorem d_M_need_29 : decode b_M_need 29 = .ok (.iconst 1, 1) := by decide +kernel
theorem d_M_need_30 : decode b_M_need 30 = .ok (.aload_n 0, 1) := by decide +kernel
theorem d_M_need_31 : decode b_M_need 31 = .ok (.getfield 29, 3) := by decide +kernel
theorem d_M_need_34 : decode b_M_need 34 = .ok (.aload_n 0, 1) := by decide +kernel
theorem d_M_need_35 : decode b_M_need 35 = .ok (.getfield 307, 3) := by decide +kernel
theorem d_M_need_38 : decode b_M_need 38 = .ok (.iaload, 1) := by decide +kernel
theorem d_M_need_39 : decode b_M_need 39 = .ok (.invokevirtual 313, 3) := by decide +kernel
theorem d_M_need_42 : decode b_M_need 42 = .ok (.aload_n 0, 1) := by decide +kernel
theorem d_M_need_43 : decode b_M_need 43 = .ok (.getfield 307, 3) := by decide +kernel
theorem d_M_need_46 : decode b_M_need 46 = .ok (.iconst 1, 1) := by decide +kernel
theorem d_M_need_47 : decode b_M_need 47 = .ok (.isub, 1) := by decide +kernel
theorem d_M_need_48 : decode b_M_need 48 = .ok (.ireturn, 1) := by decide +kernel
theorem d_M_needSign_0 : decode b_M_needSign 0 = .ok (.aload_n 0, 1) := by decide +kernel
theorem d_M_needSign_1 : decode b_M_needSign 1 = .ok (.bipush 100, 2) := by decide +kernel
theorem d_M_needSign_3 : decode b_M_needSign 3 = .ok (.iload_n 1, 1) := by decide +kernel
theorem d_M_needSign_4 : decode b_M_needSign 4 = .ok (.iadd, 1) := by decide +kernel
theorem d_M_needSign_5 : decode b_M_needSign 5 = .ok (.invokevirtual 317, 3) := by decide +kernel
theorem d_M_needSign_8 : decode b_M_needSign 8 = .ok (.pop, 1) := by decide +kernel
theorem d_M_needSign_9 : decode b_M_needSign 9 = .ok (.return_, 1) := by decide +kernel
theorem d_M_skip_0 : decode b_M_skip 0 = .ok (.aload_n 0, 1) := by decide +kernel
theorem d_M_skip_1 : decode b_M_skip 1 = .ok (.iload_n 1, 1) := by decide +kernel
theorem d_M_skip_2 : decode b_M_skip 2 = .ok (.invokevirtual 310, 3) := by decide +kernel
theorem d_M_skip_5 : decode b_M_skip 5 = .ok (.istore_n 2, 1) := by decide +kernel
theorem d_M_skip_6 : decode b_M_skip 6 = .ok (.aload_n 0, 1) := by decide +kernel
theorem d_M_skip_7 : decode b_M_skip 7 = .ok (.dup, 1) := by decide +kernel
theorem d_M_skip_8 : decode b_M_skip 8 = .ok (.getfield 307, 3) := by decide +kernel
theorem d_M_skip_11 : decode b_M_skip 11 = .ok (.iload_n 2, 1) := by decide +kernel
theorem d_M_skip_12 : decode b_M_skip 12 = .ok (.ifCond .eq 7, 3) := by decide +kernel
theorem d_M_skip_15 : decode b_M_skip 15 = .ok (.iconst 1, 1) := by decide +kernel
theorem d_M_skip_16 : decode b_M_skip 16 = .ok (.goto 4, 3) := by decide +kernel
theorem d_M_skip_19 : decode b_M_skip 19 = .ok (.iconst 0, 1) := by decide +kernel
theorem d_M_skip_20 : decode b_M_skip 20 = .ok (.iadd, 1) := by decide +kernel
theorem d_M_skip_21 : decode b_M_skip 21 = .ok (.putfield 307, 3) := by decide +kernel
theorem d_M_skip_24 : decode b_M_skip 24 = .ok (.iload_n 2, 1) := by decide +kernel
theorem d_M_skip_25 : decode b_M_skip 25 = .ok (.ireturn, 1) := by decide +kernel
theorem d_M_skipSign_0 : decode b_M_skipSign 0 = .ok (.aload_n 0, 1) := by decide +kernel
theorem d_M_skipSign_1 : decode b_M_skipSign 1 = .ok (.bipush 100, 2) := by decide +kernel
theorem d_M_skipSign_3 : decode b_M_skipSign 3 = .ok (.iload_n 1, 1) := by decide +kernel
theorem d_M_skipSign_4 : decode b_M_skipSign 4 = .ok (.iadd, 1) := by decide +kernel
theorem d_M_skipSign_5 : decode b_M_skipSign 5 = .ok (.invokevirtual 320, 3) := by decide +kernel
theorem d_M_skipSign_8 : decode b_M_skipSign 8 = .ok (.ireturn, 1) := by decide +kernel
theorem d_M_readOperand_0 : decode b_M_readOperand 0 = .ok (.aload_n 0, 1) := by decide +kernel
theorem d_M_readOperand_1 : decode b_M_readOperand 1 = .ok (.getfield 383, 3) := by decide +kernel
theorem d_M_readOperand_4 : decode b_M_readOperand 4 = .ok (.istore_n 2, 1) := by decide +kernel
theorem d_M_readOperand_5 : decode b_M_readOperand 5 = .ok (.aload_n 0, 1) := by decide +kernel
theorem d_M_readOperand_6 : decode b_M_readOperand 6 = .ok (.dup, 1) := by decide +kernel
theorem d_M_readOperand_7 : decode b_M_readOperand 7 = .ok (.getfield 383, 3) := by decide +kernel
theorem d_M_readOperand_10 : decode b_M_readOperand 10 = .ok (.iconst 1, 1) := by decide +kernel
theorem d_M_readOperand_11 : decode b_M_readOperand 11 = .ok (.iadd, 1) := by decide +kernel
theorem d_M_readOperand_12 : decode b_M_readOperand 12 = .ok (.putfield 383, 3) := by decide +kernel
theorem d_M_readOperand_15 : decode b_M_readOperand 15 = .ok (.aload_n 0, 1) := by decide +kernel
theorem d_M_readOperand_16 : decode b_M_readOperand 16 = .ok (.getfield 120, 3) := by decide +kernel
theorem d_M_readOperand_19 : decode b_M_readOperand 19 = .ok (.iload_n 2, 1) := by decide +kernel
