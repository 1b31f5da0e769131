theorem d_M_bring_135 : decode b_M_bring 135 = .ok (.iload_n 3, 1) := by decide +kernel
theorem d_M_bring_136 : decode b_M_bring 136 = .ok (.invokevirtual 566, 3) := by decide +kernel
theorem d_M_bring_139 : decode b_M_bring 139 = .ok (.ifCond .eq 4, 3) := by decide +kernel
theorem d_M_bring_142 : decode b_M_bring 142 = .ok (.return_, 1) := by decide +kernel
theorem d_M_bring_143 : decode b_M_bring 143 = .ok (.aload_n 0, 1) := by decide +kernel
theorem d_M_bring_144 : decode b_M_bring 144 = .ok (.getfield 489, 3) := by decide +kernel
theorem d_M_bring_147 : decode b_M_bring 147 = .ok (.aload_n 0, 1) := by decide +kernel
theorem d_M_bring_148 : decode b_M_bring 148 = .ok (.getfield 569, 3) := by decide +kernel
theorem d_M_bring_151 : decode b_M_bring 151 = .ok (.iadd, 1) := by decide +kernel
theorem d_M_bring_152 : decode b_M_bring 152 = .ok (.aload_n 0, 1) := by decide +kernel
theorem d_M_bring_153 : decode b_M_bring 153 = .ok (.getfield 553, 3) := by decide +kernel
theorem d_M_bring_156 : decode b_M_bring 156 = .ok (.if_icmp .ne 11, 3) := by decide +kernel
theorem d_M_bring_159 : decode b_M_bring 159 = .ok (.aload_n 0, 1) := by decide +kernel
theorem d_M_bring_160 : decode b_M_bring 160 = .ok (.iconst 4, 1) := by decide +kernel
theorem d_M_bring_161 : decode b_M_bring 161 = .ok (.putfield 238, 3) := by decide +kernel
theorem d_M_bring_164 : decode b_M_bring 164 = .ok (.goto 13, 3) := by decide +kernel
theorem d_M_bring_167 : decode b_M_bring 167 = .ok (.aload_n 0, 1) := by decide +kernel
theorem d_M_bring_168 : decode b_M_bring 168 = .ok (.dup, 1) := by decide +kernel
theorem d_M_bring_169 : decode b_M_bring 169 = .ok (.getfield 489, 3) := by decide +kernel
theorem d_M_bring_172 : decode b_M_bring 172 = .ok (.iconst 1, 1) := by decide +kernel
theorem d_M_bring_173 : decode b_M_bring 173 = .ok (.iadd, 1) := by decide +kernel
theorem d_M_bring_174 : decode b_M_bring 174 = .ok (.putfield 489, 3) := by decide +kernel
theorem d_M_bring_177 : decode b_M_bring 177 = .ok (.return_, 1) := by decide +kernel
theorem d_M_workOut_0 : decode b_M_workOut 0 = .ok (.aload_n 0, 1) := by decide +kernel
theorem d_M_workOut_1 : decode b_M_workOut 1 = .ok (.iload_n 1, 1) := by decide +kernel
theorem d_M_workOut_2 : decode b_M_workOut 2 = .ok (.iload_n 2, 1) := by decide +kernel
theorem d_M_workOut_3 : decode b_M_workOut 3 = .ok (.iload_n 3, 1) := by decide +kernel
theorem d_M_workOut_4 : decode b_M_workOut 4 = .ok (.iload 4, 2) := by decide +kernel
theorem d_M_workOut_6 : decode b_M_workOut 6 = .ok (.invokevirtual 513, 3) := by decide +kernel
theorem d_M_workOut_9 : decode b_M_workOut 9 = .ok (.aload_n 0, 1) := by decide +kernel
theorem d_M_workOut_10 : decode b_M_workOut 10 = .ok (.iload_n 1, 1) := by decide +kernel
theorem d_M_workOut_11 : decode b_M_workOut 11 = .ok (.invokevirtual 517, 3) := by decide +kernel
theorem d_M_workOut_14 : decode b_M_workOut 14 = .ok (.istore 5, 2) := by decide +kernel
theorem d_M_workOut_16 : decode b_M_workOut 16 = .ok (.iload 5, 2) := by decide +kernel
theorem d_M_workOut_18 : decode b_M_workOut 18 = .ok (.ifCond .eq 80, 3) := by decide +kernel
theorem d_M_workOut_21 : decode b_M_workOut 21 = .ok (.aload_n 0, 1) := by decide +kernel
theorem d_M_workOut_22 : decode b_M_workOut 22 = .ok (.iload_n 1, 1) := by decide +kernel
theorem d_M_workOut_23 : decode b_M_workOut 23 = .ok (.invokevirtual 520, 3) := by decide +kernel
theorem d_M_workOut_26 : decode b_M_workOut 26 = .ok (.ifCond .ne 6, 3) := by decide +kernel
theorem d_M_workOut_29 : decode b_M_workOut 29 = .ok (.goto 59, 3) := by decide +kernel
theorem d_M_workOut_32 : decode b_M_workOut 32 = .ok (.iconst 0, 1) := by decide +kernel
theorem d_M_workOut_33 : decode b_M_workOut 33 = .ok (.istore 6, 2) := by decide +kernel
theorem d_M_workOut_35 : decode b_M_workOut 35 = .ok (.iload 6, 2) := by decide +kernel
theorem d_M_workOut_37 : decode b_M_workOut 37 = .ok (.aload_n 0, 1) := by decide +kernel
theorem d_M_workOut_38 : decode b_M_workOut 38 = .ok (.getfield 87, 3) := by decide +kernel
theorem d_M_workOut_41 : decode b_M_workOut 41 = .ok (.iload_n 1, 1) := by decide +kernel
theorem d_M_workOut_42 : decode b_M_workOut 42 = .ok (.iaload, 1) := by decide +kernel
theorem d_M_workOut_43 : decode b_M_workOut 43 = .ok (.if_icmp .ge 37, 3) := by decide +kernel
theorem d_M_workOut_46 : decode b_M_workOut 46 = .ok (.aload_n 0, 1) := by decide +kernel
theorem d_M_workOut_47 : decode b_M_workOut 47 = .ok (.iload_n 1, 1) := by decide +kernel
theorem d_M_workOut_48 : decode b_M_workOut 48 = .ok (.iload 6, 2) := by decide +kernel
theorem d_M_workOut_50 : decode b_M_workOut 50 = .ok (.invokevirtual 523, 3) := by decide +kernel
theorem d_M_workOut_53 : decode b_M_workOut 53 = .ok (.ifCond .ne 21, 3) := by decide +kernel
theorem d_M_workOut_56 : decode b_M_workOut 56 = .ok (.aload_n 0, 1) := by decide +kernel
theorem d_M_workOut_57 : decode b_M_workOut 57 = .ok (.iload_n 1, 1) := by decide +kernel
theorem d_M_workOut_58 : decode b_M_workOut 58 = .ok (.iload 6, 2) := by decide +kernel
theorem d_M_workOut_60 : decode b_M_workOut 60 = .ok (.invokevirtual 526, 3) := by decide +kernel
theorem d_M_workOut_63 : decode b_M_workOut 63 = .ok (.invokestatic 529, 3) := by decide +kernel
theorem d_M_workOut_66 : decode b_M_workOut 66 = .ok (.ifCond .ne 8, 3) := by decide +kernel
theorem d_M_workOut_69 : decode b_M_workOut 69 = .ok (.aload_n 0, 1) := by decide +kernel
theorem d_M_workOut_70 : decode b_M_workOut 70 = .ok (.iconst 3, 1) := by decide +kernel
theorem d_M_workOut_71 : decode b_M_workOut 71 = .ok (.putfield 238, 3) := by decide +kernel
theorem d_M_workOut_74 : decode b_M_workOut 74 = .ok (.iinc 6 1, 3) := by decide +kernel
theorem d_M_workOut_77 : decode b_M_workOut 77 = .ok (.goto (-42), 3) := by decide +kernel
theorem d_M_workOut_80 : decode b_M_workOut 80 = .ok (.aload_n 0, 1) := by decide +kernel
theorem d_M_workOut_81 : decode b_M_workOut 81 = .ok (.getfield 238, 3) := by decide +kernel
theorem d_M_workOut_84 : decode b_M_workOut 84 = .ok (.ifCond .le 4, 3) := by decide +kernel
theorem d_M_workOut_87 : decode b_M_workOut 87 = .ok (.return_, 1) := by decide +kernel
theorem d_M_workOut_88 : decode b_M_workOut 88 = .ok (.aload_n 0, 1) := by decide +kernel
theorem d_M_workOut_89 : decode b_M_workOut 89 = .ok (.iload_n 1, 1) := by decide +kernel
theorem d_M_workOut_90 : decode b_M_workOut 90 = .ok (.invokevirtual 532, 3) := by decide +kernel
theorem d_M_workOut_93 : decode b_M_workOut 93 = .ok (.istore 5, 2) := by decide +kernel
theorem d_M_workOut_95 : decode b_M_workOut 95 = .ok (.goto (-79), 3) := by decide +kernel
theorem d_M_workOut_98 : decode b_M_workOut 98 = .ok (.aload_n 0, 1) := by decide +kernel
theorem d_M_workOut_99 : decode b_M_workOut 99 = .ok (.getfield 102, 3) := by decide +kernel
theorem d_M_workOut_102 : decode b_M_workOut 102 = .ok (.iload_n 1, 1) := by decide +kernel
theorem d_M_workOut_103 : decode b_M_workOut 103 = .ok (.baload, 1) := by decide +kernel
theorem d_M_workOut_104 : decode b_M_workOut 104 = .ok (.ifCond .eq 53, 3) := by decide +kernel
theorem d_M_workOut_107 : decode b_M_workOut 107 = .ok (.aload_n 0, 1) := by decide +kernel
theorem d_M_workOut_108 : decode b_M_workOut 108 = .ok (.iload_n 1, 1) := by decide +kernel
theorem d_M_workOut_109 : decode b_M_workOut 109 = .ok (.invokevirtual 535, 3) := by decide +kernel
theorem d_M_workOut_112 : decode b_M_workOut 112 = .ok (.aload_n 0, 1) := by decide +kernel
theorem d_M_workOut_113 : decode b_M_workOut 113 = .ok (.getfield 238, 3) := by decide +kernel
theorem d_M_workOut_116 : decode b_M_workOut 116 = .ok (.ifCond .ne 8, 3) := by decide +kernel
theorem d_M_workOut_119 : decode b_M_workOut 119 = .ok (.aload_n 0, 1) := by decide +kernel
theorem d_M_workOut_120 : decode b_M_workOut 120 = .ok (.iload_n 1, 1) := by decide +kernel
theorem d_M_workOut_121 : decode b_M_workOut 121 = .ok (.invokevirtual 538, 3) := by decide +kernel
theorem d_M_workOut_124 : decode b_M_workOut 124 = .ok (.iconst 0, 1) := by decide +kernel
theorem d_M_workOut_125 : decode b_M_workOut 125 = .ok (.istore 5, 2) := by decide +kernel
theorem d_M_workOut_127 : decode b_M_workOut 127 = .ok (.iload 5, 2) := by decide +kernel
theorem d_M_workOut_129 : decode b_M_workOut 129 = .ok (.aload_n 0, 1) := by decide +kernel
theorem d_M_workOut_130 : decode b_M_workOut 130 = .ok (.getfield 541, 3) := by decide +kernel
theorem d_M_workOut_133 : decode b_M_workOut 133 = .ok (.if_icmp .ge 23, 3) := by decide +kernel
theorem d_M_workOut_136 : decode b_M_workOut 136 = .ok (.aload_n 0, 1) := by decide +kernel
theorem d_M_workOut_137 : decode b_M_workOut 137 = .ok (.getfield 238, 3) := by decide +kernel
theorem d_M_workOut_140 : decode b_M_workOut 140 = .ok (.ifCond .ne 16, 3) := by decide +kernel
theorem d_M_workOut_143 : decode b_M_workOut 143 = .ok (.aload_n 0, 1) := by decide +kernel
theorem d_M_workOut_144 : decode b_M_workOut 144 = .ok (.iload_n 1, 1) := by decide +kernel
theorem d_M_workOut_145 : decode b_M_workOut 145 = .ok (.iload 5, 2) := by decide +kernel
theorem d_M_workOut_147 : decode b_M_workOut 147 = .ok (.invokevirtual 544, 3) := by decide +kernel
theorem d_M_workOut_150 : decode b_M_workOut 150 = .ok (.iinc 5 1, 3) := by decide +kernel
theorem d_M_workOut_153 : decode b_M_workOut 153 = .ok (.goto (-26), 3) := by decide +kernel
theorem d_M_workOut_156 : decode b_M_workOut 156 = .ok (.return_, 1) := by decide +kernel
theorem d_M_workOut_157 : decode b_M_workOut 157 = .ok (.aload_n 0, 1) := by decide +kernel
theorem d_M_workOut_158 : decode b_M_workOut 158 = .ok (.iload_n 1, 1) := by decide +kernel
theorem d_M_workOut_159 : decode b_M_workOut 159 = .ok (.invokevirtual 517, 3) := by decide +kernel
theorem d_M_workOut_162 : decode b_M_workOut 162 = .ok (.istore 5, 2) := by decide +kernel
theorem d_M_workOut_164 : decode b_M_workOut 164 = .ok (.iload 5, 2) := by decide +kernel
theorem d_M_workOut_166 : decode b_M_workOut 166 = .ok (.ifCond .eq 34, 3) := by decide +kernel
theorem d_M_workOut_169 : decode b_M_workOut 169 = .ok (.aload_n 0, 1) := by decide +kernel
theorem d_M_workOut_170 : decode b_M_workOut 170 = .ok (.getfield 238, 3) := by decide +kernel
theorem d_M_workOut_173 : decode b_M_workOut 173 = .ok (.ifCond .ne 27, 3) := by decide +kernel
theorem d_M_workOut_176 : decode b_M_workOut 176 = .ok (.aload_n 0, 1) := by decide +kernel
theorem d_M_workOut_177 : decode b_M_workOut 177 = .ok (.iload_n 1, 1) := by decide +kernel
theorem d_M_workOut_178 : decode b_M_workOut 178 = .ok (.invokevirtual 520, 3) := by decide +kernel
theorem d_M_workOut_181 : decode b_M_workOut 181 = .ok (.ifCond .eq 9, 3) := by decide +kernel
theorem d_M_workOut_184 : decode b_M_workOut 184 = .ok (.aload_n 0, 1) := by decide +kernel
theorem d_M_workOut_185 : decode b_M_workOut 185 = .ok (.iload_n 1, 1) := by decide +kernel
theorem d_M_workOut_186 : decode b_M_workOut 186 = .ok (.iconst (-1), 1) := by decide +kernel
theorem d_M_workOut_187 : decode b_M_workOut 187 = .ok (.invokevirtual 544, 3) := by decide +kernel
theorem d_M_workOut_190 : decode b_M_workOut 190 = .ok (.aload_n 0, 1) := by decide +kernel
theorem d_M_workOut_191 : decode b_M_workOut 191 = .ok (.iload_n 1, 1) := by decide +kernel
theorem d_M_workOut_192 : decode b_M_workOut 192 = .ok (.invokevirtual 532, 3) := by decide +kernel
theorem d_M_workOut_195 : decode b_M_workOut 195 = .ok (.istore 5, 2) := by decide +kernel
theorem d_M_workOut_197 : decode b_M_workOut 197 = .ok (.goto (-33), 3) := by decide +kernel
theorem d_M_workOut_200 : decode b_M_workOut 200 = .ok (.return_, 1) := by decide +kernel
theorem d_M_compare_0 : decode b_M_compare 0 = .ok (.lload_n 0, 1) := by decide +kernel
theorem d_M_compare_1 : decode b_M_compare 1 = .ok (.lload_n 2, 1) := by decide +kernel
theorem d_M_compare_2 : decode b_M_compare 2 = .ok (.lcmp, 1) := by decide +kernel
theorem d_M_compare_3 : decode b_M_compare 3 = .ok (.ifCond .ne 5, 3) := by decide +kernel
theorem d_M_compare_6 : decode b_M_compare 6 = .ok (.iconst 0, 1) := by decide +kernel
theorem d_M_compare_7 : decode b_M_compare 7 = .ok (.ireturn, 1) := by decide +kernel
theorem d_M_compare_8 : decode b_M_compare 8 = .ok (.lload_n 0, 1) := by decide +kernel
theorem d_M_compare_9 : decode b_M_compare 9 = .ok (.ldc2_w 253, 3) := by decide +kernel
theorem d_M_compare_12 : decode b_M_compare 12 = .ok (.lcmp, 1) := by decide +kernel
theorem d_M_compare_13 : decode b_M_compare 13 = .ok (.ifCond .ne 7, 3) := by decide +kernel
theorem d_M_compare_16 : decode b_M_compare 16 = .ok (.iconst (-1), 1) := by decide +kernel
theorem d_M_compare_17 : decode b_M_compare 17 = .ok (.goto 26, 3) := by decide +kernel
theorem d_M_compare_20 : decode b_M_compare 20 = .ok (.lload_n 2, 1) := by decide +kernel
theorem d_M_compare_21 : decode b_M_compare 21 = .ok (.ldc2_w 253, 3) := by decide +kernel
theorem d_M_compare_24 : decode b_M_compare 24 = .ok (.lcmp, 1) := by decide +kernel
theorem d_M_compare_25 : decode b_M_compare 25 = .ok (.ifCond .ne 7, 3) := by decide +kernel
theorem d_M_compare_28 : decode b_M_compare 28 = .ok (.iconst 1, 1) := by decide +kernel
theorem d_M_compare_29 : decode b_M_compare 29 = .ok (.goto 14, 3) := by decide +kernel
theorem d_M_compare_32 : decode b_M_compare 32 = .ok (.lload_n 0, 1) := by decide +kernel
theorem d_M_compare_33 : decode b_M_compare 33 = .ok (.lload_n 2, 1) := by decide +kernel
theorem d_M_compare_34 : decode b_M_compare 34 = .ok (.lcmp, 1) := by decide +kernel
theorem d_M_compare_35 : decode b_M_compare 35 = .ok (.ifCond .ge 7, 3) := by decide +kernel
theorem d_M_compare_38 : decode b_M_compare 38 = .ok (.iconst (-1), 1) := by decide +kernel
theorem d_M_compare_39 : decode b_M_compare 39 = .ok (.goto 4, 3) := by decide +kernel
theorem d_M_compare_42 : decode b_M_compare 42 = .ok (.iconst 1, 1) := by decide +kernel
theorem d_M_compare_43 : decode b_M_compare 43 = .ok (.ireturn, 1) := by decide +kernel
theorem d_M_compareTrails_0 : decode b_M_compareTrails 0 = .ok (.aload_n 0, 1) := by decide +kernel
theorem d_M_compareTrails_1 : decode b_M_compareTrails 1 = .ok (.getfield 186, 3) := by decide +kernel
theorem d_M_compareTrails_4 : decode b_M_compareTrails 4 = .ok (.iload_n 1, 1) := by decide +kernel
theorem d_M_compareTrails_5 : decode b_M_compareTrails 5 = .ok (.iaload, 1) := by decide +kernel
theorem d_M_compareTrails_6 : decode b_M_compareTrails 6 = .ok (.istore_n 3, 1) := by decide +kernel
theorem d_M_compareTrails_7 : decode b_M_compareTrails 7 = .ok (.aload_n 0, 1) := by decide +kernel
theorem d_M_compareTrails_8 : decode b_M_compareTrails 8 = .ok (.getfield 186, 3) := by decide +kernel
theorem d_M_compareTrails_11 : decode b_M_compareTrails 11 = .ok (.iload_n 2, 1) := by decide +kernel
theorem d_M_compareTrails_12 : decode b_M_compareTrails 12 = .ok (.iaload, 1) := by decide +kernel
theorem d_M_compareTrails_13 : decode b_M_compareTrails 13 = .ok (.istore 4, 2) := by decide +kernel
theorem d_M_compareTrails_15 : decode b_M_compareTrails 15 = .ok (.aload_n 0, 1) := by decide +kernel
theorem d_M_compareTrails_16 : decode b_M_compareTrails 16 = .ok (.getfield 44, 3) := by decide +kernel
theorem d_M_compareTrails_19 : decode b_M_compareTrails 19 = .ok (.aload_n 0, 1) := by decide +kernel
theorem d_M_compareTrails_20 : decode b_M_compareTrails 20 = .ok (.getfield 180, 3) := by decide +kernel
theorem d_M_compareTrails_23 : decode b_M_compareTrails 23 = .ok (.iload_n 1, 1) := by decide +kernel
theorem d_M_compareTrails_24 : decode b_M_compareTrails 24 = .ok (.iaload, 1) := by decide +kernel
theorem d_M_compareTrails_25 : decode b_M_compareTrails 25 = .ok (.iaload, 1) := by decide +kernel
theorem d_M_compareTrails_26 : decode b_M_compareTrails 26 = .ok (.iconst 2, 1) := by decide +kernel
theorem d_M_compareTrails_27 : decode b_M_compareTrails 27 = .ok (.if_icmp .ne 54, 3) := by decide +kernel
theorem d_M_compareTrails_30 : decode b_M_compareTrails 30 = .ok (.iload_n 3, 1) := by decide +kernel
theorem d_M_compareTrails_31 : decode b_M_compareTrails 31 = .ok (.iload 4, 2) := by decide +kernel
theorem d_M_compareTrails_33 : decode b_M_compareTrails 33 = .ok (.if_icmp .eq 17, 3) := by decide +kernel
theorem d_M_compareTrails_36 : decode b_M_compareTrails 36 = .ok (.iload_n 3, 1) := by decide +kernel
theorem d_M_compareTrails_37 : decode b_M_compareTrails 37 = .ok (.iload 4, 2) := by decide +kernel
theorem d_M_compareTrails_39 : decode b_M_compareTrails 39 = .ok (.if_icmp .ge 7, 3) := by decide +kernel
theorem d_M_compareTrails_42 : decode b_M_compareTrails 42 = .ok (.iconst (-1), 1) := by decide +kernel
theorem d_M_compareTrails_43 : decode b_M_compareTrails 43 = .ok (.goto 37, 3) := by decide +kernel
theorem d_M_compareTrails_46 : decode b_M_compareTrails 46 = .ok (.iconst 1, 1) := by decide +kernel
theorem d_M_compareTrails_47 : decode b_M_compareTrails 47 = .ok (.goto 33, 3) := by decide +kernel
theorem d_M_compareTrails_50 : decode b_M_compareTrails 50 = .ok (.aload_n 0, 1) := by decide +kernel
theorem d_M_compareTrails_51 : decode b_M_compareTrails 51 = .ok (.getfield 189, 3) := by decide +kernel
theorem d_M_compareTrails_54 : decode b_M_compareTrails 54 = .ok (.bipush 32, 2) := by decide +kernel
theorem d_M_compareTrails_56 : decode b_M_compareTrails 56 = .ok (.iload_n 1, 1) := by decide +kernel
theorem d_M_compareTrails_57 : decode b_M_compareTrails 57 = .ok (.imul, 1) := by decide +kernel
theorem d_M_compareTrails_58 : decode b_M_compareTrails 58 = .ok (.iload_n 3, 1) := by decide +kernel
theorem d_M_compareTrails_59 : decode b_M_compareTrails 59 = .ok (.iadd, 1) := by decide +kernel
theorem d_M_compareTrails_60 : decode b_M_compareTrails 60 = .ok (.iconst 1, 1) := by decide +kernel
theorem d_M_compareTrails_61 : decode b_M_compareTrails 61 = .ok (.isub, 1) := by decide +kernel
theorem d_M_compareTrails_62 : decode b_M_compareTrails 62 = .ok (.laload, 1) := by decide +kernel
theorem d_M_compareTrails_63 : decode b_M_compareTrails 63 = .ok (.aload_n 0, 1) := by decide +kernel
theorem d_M_compareTrails_64 : decode b_M_compareTrails 64 = .ok (.getfield 189, 3) := by decide +kernel
theorem d_M_compareTrails_67 : decode b_M_compareTrails 67 = .ok (.bipush 32, 2) := by decide +kernel
theorem d_M_compareTrails_69 : decode b_M_compareTrails 69 = .ok (.iload_n 2, 1) := by decide +kernel
theorem d_M_compareTrails_70 : decode b_M_compareTrails 70 = .ok (.imul, 1) := by decide +kernel
theorem d_M_compareTrails_71 : decode b_M_compareTrails 71 = .ok (.iload 4, 2) := by decide +kernel
theorem d_M_compareTrails_73 : decode b_M_compareTrails 73 = .ok (.iadd, 1) := by decide +kernel
theorem d_M_compareTrails_74 : decode b_M_compareTrails 74 = .ok (.iconst 1, 1) := by decide +kernel
theorem d_M_compareTrails_75 : decode b_M_compareTrails 75 = .ok (.isub, 1) := by decide +kernel
theorem d_M_compareTrails_76 : decode b_M_compareTrails 76 = .ok (.laload, 1) := by decide +kernel
theorem d_M_compareTrails_77 : decode b_M_compareTrails 77 = .ok (.invokestatic 579, 3) := by decide +kernel
theorem d_M_compareTrails_80 : decode b_M_compareTrails 80 = .ok (.ireturn, 1) := by decide +kernel
theorem d_M_compareTrails_81 : decode b_M_compareTrails 81 = .ok (.iconst 0, 1) := by decide +kernel
theorem d_M_compareTrails_82 : decode b_M_compareTrails 82 = .ok (.istore 5, 2) := by decide +kernel
theorem d_M_compareTrails_84 : decode b_M_compareTrails 84 = .ok (.iload 5, 2) := by decide +kernel
theorem d_M_compareTrails_86 : decode b_M_compareTrails 86 = .ok (.iload_n 3, 1) := by decide +kernel
theorem d_M_compareTrails_87 : decode b_M_compareTrails 87 = .ok (.if_icmp .ge 53, 3) := by decide +kernel
theorem d_M_compareTrails_90 : decode b_M_compareTrails 90 = .ok (.iload 5, 2) := by decide +kernel
theorem d_M_compareTrails_92 : decode b_M_compareTrails 92 = .ok (.iload 4, 2) := by decide +kernel
theorem d_M_compareTrails_94 : decode b_M_compareTrails 94 = .ok (.if_icmp .ge 46, 3) := by decide +kernel
theorem d_M_compareTrails_97 : decode b_M_compareTrails 97 = .ok (.aload_n 0, 1) := by decide +kernel
theorem d_M_compareTrails_98 : decode b_M_compareTrails 98 = .ok (.getfield 189, 3) := by decide +kernel
theorem d_M_compareTrails_101 : decode b_M_compareTrails 101 = .ok (.bipush 32, 2) := by decide +kernel
theorem d_M_compareTrails_103 : decode b_M_compareTrails 103 = .ok (.iload_n 1, 1) := by decide +kernel
theorem d_M_compareTrails_104 : decode b_M_compareTrails 104 = .ok (.imul, 1) := by decide +kernel
theorem d_M_compareTrails_105 : decode b_M_compareTrails 105 = .ok (.iload 5, 2) := by decide +kernel
theorem d_M_compareTrails_107 : decode b_M_compareTrails 107 = .ok (.iadd, 1) := by decide +kernel
theorem d_M_compareTrails_108 : decode b_M_compareTrails 108 = .ok (.laload, 1) := by decide +kernel
theorem d_M_compareTrails_109 : decode b_M_compareTrails 109 = .ok (.aload_n 0, 1) := by decide +kernel
theorem d_M_compareTrails_110 : decode b_M_compareTrails 110 = .ok (.getfield 189, 3) := by decide +kernel
theorem d_M_compareTrails_113 : decode b_M_compareTrails 113 = .ok (.bipush 32, 2) := by decide +kernel
theorem d_M_compareTrails_115 : decode b_M_compareTrails 115 = .ok (.iload_n 2, 1) := by decide +kernel
theorem d_M_compareTrails_116 : decode b_M_compareTrails 116 = .ok (.imul, 1) := by decide +kernel
theorem d_M_compareTrails_117 : decode b_M_compareTrails 117 = .ok (.iload 5, 2) := by decide +kernel
theorem d_M_compareTrails_119 : decode b_M_compareTrails 119 = .ok (.iadd, 1) := by decide +kernel
theorem d_M_compareTrails_120 : decode b_M_compareTrails 120 = .ok (.laload, 1) := by decide +kernel
theorem d_M_compareTrails_121 : decode b_M_compareTrails 121 = .ok (.invokestatic 579, 3) := by decide +kernel
theorem d_M_compareTrails_124 : decode b_M_compareTrails 124 = .ok (.istore 6, 2) := by decide +kernel
theorem d_M_compareTrails_126 : decode b_M_compareTrails 126 = .ok (.iload 6, 2) := by decide +kernel
theorem d_M_compareTrails_128 : decode b_M_compareTrails 128 = .ok (.ifCond .eq 6, 3) := by decide +kernel
theorem d_M_compareTrails_131 : decode b_M_compareTrails 131 = .ok (.iload 6, 2) := by decide +kernel
theorem d_M_compareTrails_133 : decode b_M_compareTrails 133 = .ok (.ireturn, 1) := by decide +kernel
theorem d_M_compareTrails_134 : decode b_M_compareTrails 134 = .ok (.iinc 5 1, 3) := by decide +kernel
theorem d_M_compareTrails_137 : decode b_M_compareTrails 137 = .ok (.goto (-53), 3) := by decide +kernel
theorem d_M_compareTrails_140 : decode b_M_compareTrails 140 = .ok (.iload_n 3, 1) := by decide +kernel
theorem d_M_compareTrails_141 : decode b_M_compareTrails 141 = .ok (.iload 4, 2) := by decide +kernel
theorem d_M_compareTrails_143 : decode b_M_compareTrails 143 = .ok (.if_icmp .ge 7, 3) := by decide +kernel
theorem d_M_compareTrails_146 : decode b_M_compareTrails 146 = .ok (.iconst (-1), 1) := by decide +kernel
theorem d_M_compareTrails_147 : decode b_M_compareTrails 147 = .ok (.goto 14, 3) := by decide +kernel
theorem d_M_compareTrails_150 : decode b_M_compareTrails 150 = .ok (.iload_n 3, 1) := by decide +kernel
theorem d_M_compareTrails_151 : decode b_M_compareTrails 151 = .ok (.iload 4, 2) := by decide +kernel
theorem d_M_compareTrails_153 : decode b_M_compareTrails 153 = .ok (.if_icmp .le 7, 3) := by decide +kernel
theorem d_M_compareTrails_156 : decode b_M_compareTrails 156 = .ok (.iconst 1, 1) := by decide +kernel
theorem d_M_compareTrails_157 : decode b_M_compareTrails 157 = .ok (.goto 4, 3) := by decide +kernel
theorem d_M_compareTrails_160 : decode b_M_compareTrails 160 = .ok (.iconst 0, 1) := by decide +kernel
theorem d_M_compareTrails_161 : decode b_M_compareTrails 161 = .ok (.ireturn, 1) := by decide +kernel
theorem d_M_compareAnswers_0 : decode b_M_compareAnswers 0 = .ok (.iconst 0, 1) := by decide +kernel
theorem d_M_compareAnswers_1 : decode b_M_compareAnswers 1 = .ok (.istore_n 3, 1) := by decide +kernel
theorem d_M_compareAnswers_2 : decode b_M_compareAnswers 2 = .ok (.iload_n 3, 1) := by decide +kernel
theorem d_M_compareAnswers_3 : decode b_M_compareAnswers 3 = .ok (.aload_n 0, 1) := by decide +kernel
theorem d_M_compareAnswers_4 : decode b_M_compareAnswers 4 = .ok (.getfield 392, 3) := by decide +kernel
theorem d_M_compareAnswers_7 : decode b_M_compareAnswers 7 = .ok (.if_icmp .ge 82, 3) := by decide +kernel
theorem d_M_compareAnswers_10 : decode b_M_compareAnswers 10 = .ok (.aload_n 0, 1) := by decide +kernel
theorem d_M_compareAnswers_11 : decode b_M_compareAnswers 11 = .ok (.getfield 168, 3) := by decide +kernel
theorem d_M_compareAnswers_14 : decode b_M_compareAnswers 14 = .ok (.iload_n 3, 1) := by decide +kernel
theorem d_M_compareAnswers_15 : decode b_M_compareAnswers 15 = .ok (.iaload, 1) := by decide +kernel
theorem d_M_compareAnswers_16 : decode b_M_compareAnswers 16 = .ok (.bipush 100, 2) := by decide +kernel
theorem d_M_compareAnswers_18 : decode b_M_compareAnswers 18 = .ok (.if_icmp .ne 32, 3) := by decide +kernel
theorem d_M_compareAnswers_21 : decode b_M_compareAnswers 21 = .ok (.aload_n 0, 1) := by decide +kernel
theorem d_M_compareAnswers_22 : decode b_M_compareAnswers 22 = .ok (.aload_n 0, 1) := by decide +kernel
theorem d_M_compareAnswers_23 : decode b_M_compareAnswers 23 = .ok (.getfield 201, 3) := by decide +kernel
theorem d_M_compareAnswers_26 : decode b_M_compareAnswers 26 = .ok (.iconst 2, 1) := by decide +kernel
theorem d_M_compareAnswers_27 : decode b_M_compareAnswers 27 = .ok (.iload_n 1, 1) := by decide +kernel
theorem d_M_compareAnswers_28 : decode b_M_compareAnswers 28 = .ok (.imul, 1) := by decide +kernel
theorem d_M_compareAnswers_29 : decode b_M_compareAnswers 29 = .ok (.iload_n 3, 1) := by decide +kernel
theorem d_M_compareAnswers_30 : decode b_M_compareAnswers 30 = .ok (.iadd, 1) := by decide +kernel
theorem d_M_compareAnswers_31 : decode b_M_compareAnswers 31 = .ok (.laload, 1) := by decide +kernel
theorem d_M_compareAnswers_32 : decode b_M_compareAnswers 32 = .ok (.l2i, 1) := by decide +kernel
theorem d_M_compareAnswers_33 : decode b_M_compareAnswers 33 = .ok (.aload_n 0, 1) := by decide +kernel
theorem d_M_compareAnswers_34 : decode b_M_compareAnswers 34 = .ok (.getfield 201, 3) := by decide +kernel
theorem d_M_compareAnswers_37 : decode b_M_compareAnswers 37 = .ok (.iconst 2, 1) := by decide +kernel
theorem d_M_compareAnswers_38 : decode b_M_compareAnswers 38 = .ok (.iload_n 2, 1) := by decide +kernel
theorem d_M_compareAnswers_39 : decode b_M_compareAnswers 39 = .ok (.imul, 1) := by decide +kernel
theorem d_M_compareAnswers_40 : decode b_M_compareAnswers 40 = .ok (.iload_n 3, 1) := by decide +kernel
theorem d_M_compareAnswers_41 : decode b_M_compareAnswers 41 = .ok (.iadd, 1) := by decide +kernel
theorem d_M_compareAnswers_42 : decode b_M_compareAnswers 42 = .ok (.laload, 1) := by decide +kernel
theorem d_M_compareAnswers_43 : decode b_M_compareAnswers 43 = .ok (.l2i, 1) := by decide +kernel
theorem d_M_compareAnswers_44 : decode b_M_compareAnswers 44 = .ok (.invokevirtual 583, 3) := by decide +kernel
theorem d_M_compareAnswers_47 : decode b_M_compareAnswers 47 = .ok (.goto 26, 3) := by decide +kernel
theorem d_M_compareAnswers_50 : decode b_M_compareAnswers 50 = .ok (.aload_n 0, 1) := by decide +kernel
theorem d_M_compareAnswers_51 : decode b_M_compareAnswers 51 = .ok (.getfield 201, 3) := by decide +kernel
theorem d_M_compareAnswers_54 : decode b_M_compareAnswers 54 = .ok (.iconst 2, 1) := by decide +kernel
theorem d_M_compareAnswers_55 : decode b_M_compareAnswers 55 = .ok (.iload_n 1, 1) := by decide +kernel
theorem d_M_compareAnswers_56 : decode b_M_compareAnswers 56 = .ok (.imul, 1) := by decide +kernel
theorem d_M_compareAnswers_57 : decode b_M_compareAnswers 57 = .ok (.iload_n 3, 1) := by decide +kernel
theorem d_M_compareAnswers_58 : decode b_M_compareAnswers 58 = .ok (.iadd, 1) := by decide +kernel
theorem d_M_compareAnswers_59 : decode b_M_compareAnswers 59 = .ok (.laload, 1) := by decide +kernel
theorem d_M_compareAnswers_60 : decode b_M_compareAnswers 60 = .ok (.aload_n 0, 1) := by decide +kernel
theorem d_M_compareAnswers_61 : decode b_M_compareAnswers 61 = .ok (.getfield 201, 3) := by decide +kernel
theorem d_M_compareAnswers_64 : decode b_M_compareAnswers 64 = .ok (.iconst 2, 1) := by decide +kernel
theorem d_M_compareAnswers_65 : decode b_M_compareAnswers 65 = .ok (.iload_n 2, 1) := by decide +kernel
theorem d_M_compareAnswers_66 : decode b_M_compareAnswers 66 = .ok (.imul, 1) := by decide +kernel
theorem d_M_compareAnswers_67 : decode b_M_compareAnswers 67 = .ok (.iload_n 3, 1) := by decide +kernel
theorem d_M_compareAnswers_68 : decode b_M_compareAnswers 68 = .ok (.iadd, 1) := by decide +kernel
theorem d_M_compareAnswers_69 : decode b_M_compareAnswers 69 = .ok (.laload, 1) := by decide +kernel
theorem d_M_compareAnswers_70 : decode b_M_compareAnswers 70 = .ok (.invokestatic 579, 3) := by decide +kernel
theorem d_M_compareAnswers_73 : decode b_M_compareAnswers 73 = .ok (.istore 4, 2) := by decide +kernel
theorem d_M_compareAnswers_75 : decode b_M_compareAnswers 75 = .ok (.iload 4, 2) := by decide +kernel
theorem d_M_compareAnswers_77 : decode b_M_compareAnswers 77 = .ok (.ifCond .eq 6, 3) := by decide +kernel
theorem d_M_compareAnswers_80 : decode b_M_compareAnswers 80 = .ok (.iload 4, 2) := by decide +kernel
theorem d_M_compareAnswers_82 : decode b_M_compareAnswers 82 = .ok (.ireturn, 1) := by decide +kernel
theorem d_M_compareAnswers_83 : decode b_M_compareAnswers 83 = .ok (.iinc 3 1, 3) := by decide +kernel
theorem d_M_compareAnswers_86 : decode b_M_compareAnswers 86 = .ok (.goto (-84), 3) := by decide +kernel
theorem d_M_compareAnswers_89 : decode b_M_compareAnswers 89 = .ok (.iconst 0, 1) := by decide +kernel
theorem d_M_compareAnswers_90 : decode b_M_compareAnswers 90 = .ok (.istore_n 3, 1) := by decide +kernel
theorem d_M_compareAnswers_91 : decode b_M_compareAnswers 91 = .ok (.iload_n 3, 1) := by decide +kernel
theorem d_M_compareAnswers_92 : decode b_M_compareAnswers 92 = .ok (.aload_n 0, 1) := by decide +kernel
theorem d_M_compareAnswers_93 : decode b_M_compareAnswers 93 = .ok (.getfield 586, 3) := by decide +kernel
theorem d_M_compareAnswers_96 : decode b_M_compareAnswers 96 = .ok (.if_icmp .ge 42, 3) := by decide +kernel
theorem d_M_compareAnswers_99 : decode b_M_compareAnswers 99 = .ok (.aload_n 0, 1) := by decide +kernel
theorem d_M_compareAnswers_100 : decode b_M_compareAnswers 100 = .ok (.getfield 198, 3) := by decide +kernel
theorem d_M_compareAnswers_103 : decode b_M_compareAnswers 103 = .ok (.iconst 4, 1) := by decide +kernel
theorem d_M_compareAnswers_104 : decode b_M_compareAnswers 104 = .ok (.iload_n 1, 1) := by decide +kernel
theorem d_M_compareAnswers_105 : decode b_M_compareAnswers 105 = .ok (.imul, 1) := by decide +kernel
theorem d_M_compareAnswers_106 : decode b_M_compareAnswers 106 = .ok (.iload_n 3, 1) := by decide +kernel
theorem d_M_compareAnswers_107 : decode b_M_compareAnswers 107 = .ok (.iadd, 1) := by decide +kernel
theorem d_M_compareAnswers_108 : decode b_M_compareAnswers 108 = .ok (.laload, 1) := by decide +kernel
theorem d_M_compareAnswers_109 : decode b_M_compareAnswers 109 = .ok (.aload_n 0, 1) := by decide +kernel
theorem d_M_compareAnswers_110 : decode b_M_compareAnswers 110 = .ok (.getfield 198, 3) := by decide +kernel
theorem d_M_compareAnswers_113 : decode b_M_compareAnswers 113 = .ok (.iconst 4, 1) := by decide +kernel
theorem d_M_compareAnswers_114 : decode b_M_compareAnswers 114 = .ok (.iload_n 2, 1) := by decide +kernel
theorem d_M_compareAnswers_115 : decode b_M_compareAnswers 115 = .ok (.imul, 1) := by decide +kernel
theorem d_M_compareAnswers_116 : decode b_M_compareAnswers 116 = .ok (.iload_n 3, 1) := by decide +kernel
theorem d_M_compareAnswers_117 : decode b_M_compareAnswers 117 = .ok (.iadd, 1) := by decide +kernel
theorem d_M_compareAnswers_118 : decode b_M_compareAnswers 118 = .ok (.laload, 1) := by decide +kernel
theorem d_M_compareAnswers_119 : decode b_M_compareAnswers 119 = .ok (.invokestatic 579, 3) := by decide +kernel
theorem d_M_compareAnswers_122 : decode b_M_compareAnswers 122 = .ok (.istore 4, 2) := by decide +kernel
theorem d_M_compareAnswers_124 : decode b_M_compareAnswers 124 = .ok (.iload 4, 2) := by decide +kernel
theorem d_M_compareAnswers_126 : decode b_M_compareAnswers 126 = .ok (.ifCond .eq 6, 3) := by decide +kernel
theorem d_M_compareAnswers_129 : decode b_M_compareAnswers 129 = .ok (.iload 4, 2) := by decide +kernel
theorem d_M_compareAnswers_131 : decode b_M_compareAnswers 131 = .ok (.ireturn, 1) := by decide +kernel
theorem d_M_compareAnswers_132 : decode b_M_compareAnswers 132 = .ok (.iinc 3 1, 3) := by decide +kernel
theorem d_M_compareAnswers_135 : decode b_M_compareAnswers 135 = .ok (.goto (-44), 3) := by decide +kernel
theorem d_M_compareAnswers_138 : decode b_M_compareAnswers 138 = .ok (.iconst 0, 1) := by decide +kernel
theorem d_M_compareAnswers_139 : decode b_M_compareAnswers 139 = .ok (.ireturn, 1) := by decide +kernel
theorem d_M_sort_0 : decode b_M_sort 0 = .ok (.iconst 0, 1) := by decide +kernel
theorem d_M_sort_1 : decode b_M_sort 1 = .ok (.istore_n 1, 1) := by decide +kernel
theorem d_M_sort_2 : decode b_M_sort 2 = .ok (.iload_n 1, 1) := by decide +kernel
theorem d_M_sort_3 : decode b_M_sort 3 = .ok (.aload_n 0, 1) := by decide +kernel
theorem d_M_sort_4 : decode b_M_sort 4 = .ok (.getfield 569, 3) := by decide +kernel
theorem d_M_sort_7 : decode b_M_sort 7 = .ok (.if_icmp .ge 58, 3) := by decide +kernel
theorem d_M_sort_10 : decode b_M_sort 10 = .ok (.iload_n 1, 1) := by decide +kernel
theorem d_M_sort_11 : decode b_M_sort 11 = .ok (.istore_n 2, 1) := by decide +kernel
theorem d_M_sort_12 : decode b_M_sort 12 = .ok (.iload_n 2, 1) := by decide +kernel
theorem d_M_sort_13 : decode b_M_sort 13 = .ok (.ifCond .le 39, 3) := by decide +kernel
theorem d_M_sort_16 : decode b_M_sort 16 = .ok (.aload_n 0, 1) := by decide +kernel
theorem d_M_sort_17 : decode b_M_sort 17 = .ok (.aload_n 0, 1) := by decide +kernel
theorem d_M_sort_18 : decode b_M_sort 18 = .ok (.getfield 204, 3) := by decide +kernel
theorem d_M_sort_21 : decode b_M_sort 21 = .ok (.iload_n 2, 1) := by decide +kernel
theorem d_M_sort_22 : decode b_M_sort 22 = .ok (.iconst 1, 1) := by decide +kernel
theorem d_M_sort_23 : decode b_M_sort 23 = .ok (.isub, 1) := by decide +kernel
theorem d_M_sort_24 : decode b_M_sort 24 = .ok (.iaload, 1) := by decide +kernel
theorem d_M_sort_25 : decode b_M_sort 25 = .ok (.iload_n 1, 1) := by decide +kernel
theorem d_M_sort_26 : decode b_M_sort 26 = .ok (.invokevirtual 589, 3) := by decide +kernel
theorem d_M_sort_29 : decode b_M_sort 29 = .ok (.ifCond .le 23, 3) := by decide +kernel
theorem d_M_sort_32 : decode b_M_sort 32 = .ok (.aload_n 0, 1) := by decide +kernel
theorem d_M_sort_33 : decode b_M_sort 33 = .ok (.getfield 204, 3) := by decide +kernel
theorem d_M_sort_36 : decode b_M_sort 36 = .ok (.iload_n 2, 1) := by decide +kernel
theorem d_M_sort_37 : decode b_M_sort 37 = .ok (.aload_n 0, 1) := by decide +kernel
theorem d_M_sort_38 : decode b_M_sort 38 = .ok (.getfield 204, 3) := by decide +kernel
theorem d_M_sort_41 : decode b_M_sort 41 = .ok (.iload_n 2, 1) := by decide +kernel
theorem d_M_sort_42 : decode b_M_sort 42 = .ok (.iconst 1, 1) := by decide +kernel
theorem d_M_sort_43 : decode b_M_sort 43 = .ok (.isub, 1) := by decide +kernel
theorem d_M_sort_44 : decode b_M_sort 44 = .ok (.iaload, 1) := by decide +kernel
theorem d_M_sort_45 : decode b_M_sort 45 = .ok (.iastore, 1) := by decide +kernel
theorem d_M_sort_46 : decode b_M_sort 46 = .ok (.iinc 2 (-1), 3) := by decide +kernel
theorem d_M_sort_49 : decode b_M_sort 49 = .ok (.goto (-37), 3) := by decide +kernel
theorem d_M_sort_52 : decode b_M_sort 52 = .ok (.aload_n 0, 1) := by decide +kernel
theorem d_M_sort_53 : decode b_M_sort 53 = .ok (.getfield 204, 3) := by decide +kernel
theorem d_M_sort_56 : decode b_M_sort 56 = .ok (.iload_n 2, 1) := by decide +kernel
theorem d_M_sort_57 : decode b_M_sort 57 = .ok (.iload_n 1, 1) := by decide +kernel
theorem d_M_sort_58 : decode b_M_sort 58 = .ok (.iastore, 1) := by decide +kernel
theorem d_M_sort_59 : decode b_M_sort 59 = .ok (.iinc 1 1, 3) := by decide +kernel
theorem d_M_sort_62 : decode b_M_sort 62 = .ok (.goto (-60), 3) := by decide +kernel
theorem d_M_sort_65 : decode b_M_sort 65 = .ok (.return_, 1) := by decide +kernel
theorem d_M_round_0 : decode b_M_round 0 = .ok (.iconst 0, 1) := by decide +kernel
theorem d_M_round_1 : decode b_M_round 1 = .ok (.istore 5, 2) := by decide +kernel
theorem d_M_round_3 : decode b_M_round 3 = .ok (.iconst 0, 1) := by decide +kernel
theorem d_M_round_4 : decode b_M_round 4 = .ok (.istore 6, 2) := by decide +kernel
theorem d_M_round_6 : decode b_M_round 6 = .ok (.iload 6, 2) := by decide +kernel
theorem d_M_round_8 : decode b_M_round 8 = .ok (.aload_n 0, 1) := by decide +kernel
theorem d_M_round_9 : decode b_M_round 9 = .ok (.getfield 330, 3) := by decide +kernel
theorem d_M_round_12 : decode b_M_round 12 = .ok (.if_icmp .ge 33, 3) := by decide +kernel
theorem d_M_round_15 : decode b_M_round 15 = .ok (.iload 5, 2) := by decide +kernel
theorem d_M_round_17 : decode b_M_round 17 = .ok (.aload_n 0, 1) := by decide +kernel
theorem d_M_round_18 : decode b_M_round 18 = .ok (.getfield 177, 3) := by decide +kernel
theorem d_M_round_21 : decode b_M_round 21 = .ok (.iload 6, 2) := by decide +kernel
theorem d_M_round_23 : decode b_M_round 23 = .ok (.iaload, 1) := by decide +kernel
theorem d_M_round_24 : decode b_M_round 24 = .ok (.iload_n 1, 1) := by decide +kernel
theorem d_M_round_25 : decode b_M_round 25 = .ok (.if_icmp .ne 10, 3) := by decide +kernel
theorem d_M_round_28 : decode b_M_round 28 = .ok (.iconst 1, 1) := by decide +kernel
theorem d_M_round_29 : decode b_M_round 29 = .ok (.iload 6, 2) := by decide +kernel
theorem d_M_round_31 : decode b_M_round 31 = .ok (.ishl, 1) := by decide +kernel
theorem d_M_round_32 : decode b_M_round 32 = .ok (.goto 4, 3) := by decide +kernel
theorem d_M_round_35 : decode b_M_round 35 = .ok (.iconst 0, 1) := by decide +kernel
theorem d_M_round_36 : decode b_M_round 36 = .ok (.ior, 1) := by decide +kernel
theorem d_M_round_37 : decode b_M_round 37 = .ok (.istore 5, 2) := by decide +kernel
theorem d_M_round_39 : decode b_M_round 39 = .ok (.iinc 6 1, 3) := by decide +kernel
theorem d_M_round_42 : decode b_M_round 42 = .ok (.goto (-36), 3) := by decide +kernel
theorem d_M_round_45 : decode b_M_round 45 = .ok (.iconst 0, 1) := by decide +kernel
theorem d_M_round_46 : decode b_M_round 46 = .ok (.istore 6, 2) := by decide +kernel
theorem d_M_round_48 : decode b_M_round 48 = .ok (.iload 6, 2) := by decide +kernel
theorem d_M_round_50 : decode b_M_round 50 = .ok (.aload_n 0, 1) := by decide +kernel
theorem d_M_round_51 : decode b_M_round 51 = .ok (.getfield 330, 3) := by decide +kernel
theorem d_M_round_54 : decode b_M_round 54 = .ok (.if_icmp .ge 129, 3) := by decide +kernel
theorem d_M_round_57 : decode b_M_round 57 = .ok (.aload_n 0, 1) := by decide +kernel
theorem d_M_round_58 : decode b_M_round 58 = .ok (.getfield 177, 3) := by decide +kernel
theorem d_M_round_61 : decode b_M_round 61 = .ok (.iload 6, 2) := by decide +kernel
theorem d_M_round_63 : decode b_M_round 63 = .ok (.iaload, 1) := by decide +kernel
theorem d_M_round_64 : decode b_M_round 64 = .ok (.iload_n 1, 1) := by decide +kernel
theorem d_M_round_65 : decode b_M_round 65 = .ok (.if_icmp .eq 6, 3) := by decide +kernel
theorem d_M_round_68 : decode b_M_round 68 = .ok (.goto 109, 3) := by decide +kernel
theorem d_M_round_71 : decode b_M_round 71 = .ok (.aload_n 0, 1) := by decide +kernel
theorem d_M_round_72 : decode b_M_round 72 = .ok (.iload 6, 2) := by decide +kernel
theorem d_M_round_74 : decode b_M_round 74 = .ok (.invokevirtual 442, 3) := by decide +kernel
theorem d_M_round_77 : decode b_M_round 77 = .ok (.ifCond .eq 17, 3) := by decide +kernel
theorem d_M_round_80 : decode b_M_round 80 = .ok (.aload_n 0, 1) := by decide +kernel
theorem d_M_round_81 : decode b_M_round 81 = .ok (.getfield 69, 3) := by decide +kernel
theorem d_M_round_84 : decode b_M_round 84 = .ok (.iload 6, 2) := by decide +kernel
theorem d_M_round_86 : decode b_M_round 86 = .ok (.baload, 1) := by decide +kernel
theorem d_M_round_87 : decode b_M_round 87 = .ok (.ifCond .eq 7, 3) := by decide +kernel
theorem d_M_round_90 : decode b_M_round 90 = .ok (.iconst 1, 1) := by decide +kernel
theorem d_M_round_91 : decode b_M_round 91 = .ok (.goto 4, 3) := by decide +kernel
theorem d_M_round_94 : decode b_M_round 94 = .ok (.iconst 0, 1) := by decide +kernel
theorem d_M_round_95 : decode b_M_round 95 = .ok (.istore 7, 2) := by decide +kernel
theorem d_M_round_97 : decode b_M_round 97 = .ok (.iconst 0, 1) := by decide +kernel
theorem d_M_round_98 : decode b_M_round 98 = .ok (.istore 8, 2) := by decide +kernel
theorem d_M_round_100 : decode b_M_round 100 = .ok (.iload 8, 2) := by decide +kernel
theorem d_M_round_102 : decode b_M_round 102 = .ok (.aload_n 0, 1) := by decide +kernel
theorem d_M_round_103 : decode b_M_round 103 = .ok (.getfield 75, 3) := by decide +kernel
theorem d_M_round_106 : decode b_M_round 106 = .ok (.iload 6, 2) := by decide +kernel
theorem d_M_round_108 : decode b_M_round 108 = .ok (.iaload, 1) := by decide +kernel
theorem d_M_round_109 : decode b_M_round 109 = .ok (.if_icmp .ge 68, 3) := by decide +kernel
theorem d_M_round_112 : decode b_M_round 112 = .ok (.aload_n 0, 1) := by decide +kernel
theorem d_M_round_113 : decode b_M_round 113 = .ok (.getfield 238, 3) := by decide +kernel
theorem d_M_round_116 : decode b_M_round 116 = .ok (.ifCond .ne 61, 3) := by decide +kernel
theorem d_M_round_119 : decode b_M_round 119 = .ok (.aload_n 0, 1) := by decide +kernel
theorem d_M_round_120 : decode b_M_round 120 = .ok (.getfield 72, 3) := by decide +kernel
theorem d_M_round_123 : decode b_M_round 123 = .ok (.iload 6, 2) := by decide +kernel
theorem d_M_round_125 : decode b_M_round 125 = .ok (.iaload, 1) := by decide +kernel
theorem d_M_round_126 : decode b_M_round 126 = .ok (.iload 8, 2) := by decide +kernel
theorem d_M_round_128 : decode b_M_round 128 = .ok (.iadd, 1) := by decide +kernel
theorem d_M_round_129 : decode b_M_round 129 = .ok (.istore 9, 2) := by decide +kernel
theorem d_M_round_131 : decode b_M_round 131 = .ok (.aload_n 0, 1) := by decide +kernel
theorem d_M_round_132 : decode b_M_round 132 = .ok (.iload 9, 2) := by decide +kernel
theorem d_M_round_134 : decode b_M_round 134 = .ok (.iload 6, 2) := by decide +kernel
theorem d_M_round_136 : decode b_M_round 136 = .ok (.invokevirtual 448, 3) := by decide +kernel
theorem d_M_round_139 : decode b_M_round 139 = .ok (.ifCond .le 7, 3) := by decide +kernel
theorem d_M_round_142 : decode b_M_round 142 = .ok (.iconst 1, 1) := by decide +kernel
theorem d_M_round_143 : decode b_M_round 143 = .ok (.goto 4, 3) := by decide +kernel
theorem d_M_round_146 : decode b_M_round 146 = .ok (.iconst 0, 1) := by decide +kernel
theorem d_M_round_147 : decode b_M_round 147 = .ok (.istore 10, 2) := by decide +kernel
theorem d_M_round_149 : decode b_M_round 149 = .ok (.iload 7, 2) := by decide +kernel
theorem d_M_round_151 : decode b_M_round 151 = .ok (.ifCond .eq 10, 3) := by decide +kernel
theorem d_M_round_154 : decode b_M_round 154 = .ok (.iload 10, 2) := by decide +kernel
theorem d_M_round_156 : decode b_M_round 156 = .ok (.iload 4, 2) := by decide +kernel
theorem d_M_round_158 : decode b_M_round 158 = .ok (.if_icmp .eq 13, 3) := by decide +kernel
theorem d_M_round_161 : decode b_M_round 161 = .ok (.aload_n 0, 1) := by decide +kernel
theorem d_M_round_162 : decode b_M_round 162 = .ok (.iload 9, 2) := by decide +kernel
theorem d_M_round_164 : decode b_M_round 164 = .ok (.iload 5, 2) := by decide +kernel
theorem d_M_round_166 : decode b_M_round 166 = .ok (.iload_n 2, 1) := by decide +kernel
theorem d_M_round_167 : decode b_M_round 167 = .ok (.iload_n 3, 1) := by decide +kernel
theorem d_M_round_168 : decode b_M_round 168 = .ok (.invokevirtual 592, 3) := by decide +kernel
theorem d_M_round_171 : decode b_M_round 171 = .ok (.iinc 8 1, 3) := by decide +kernel
theorem d_M_round_174 : decode b_M_round 174 = .ok (.goto (-74), 3) := by decide +kernel
theorem d_M_round_177 : decode b_M_round 177 = .ok (.iinc 6 1, 3) := by decide +kernel
theorem d_M_round_180 : decode b_M_round 180 = .ok (.goto (-132), 3) := by decide +kernel
theorem d_M_round_183 : decode b_M_round 183 = .ok (.return_, 1) := by decide +kernel
theorem d_M_workComponent_0 : decode b_M_workComponent 0 = .ok (.iconst 0, 1) := by decide +kernel
theorem d_M_workComponent_1 : decode b_M_workComponent 1 = .ok (.istore_n 3, 1) := by decide +kernel
theorem d_M_workComponent_2 : decode b_M_workComponent 2 = .ok (.iconst 0, 1) := by decide +kernel
theorem d_M_workComponent_3 : decode b_M_workComponent 3 = .ok (.istore 4, 2) := by decide +kernel
theorem d_M_workComponent_5 : decode b_M_workComponent 5 = .ok (.iconst 0, 1) := by decide +kernel
theorem d_M_workComponent_6 : decode b_M_workComponent 6 = .ok (.istore 5, 2) := by decide +kernel
theorem d_M_workComponent_8 : decode b_M_workComponent 8 = .ok (.iload 5, 2) := by decide +kernel
theorem d_M_workComponent_10 : decode b_M_workComponent 10 = .ok (.aload_n 0, 1) := by decide +kernel
theorem d_M_workComponent_11 : decode b_M_workComponent 11 = .ok (.getfield 330, 3) := by decide +kernel
theorem d_M_workComponent_14 : decode b_M_workComponent 14 = .ok (.if_icmp .ge 81, 3) := by decide +kernel
theorem d_M_workComponent_17 : decode b_M_workComponent 17 = .ok (.iload_n 3, 1) := by decide +kernel
theorem d_M_workComponent_18 : decode b_M_workComponent 18 = .ok (.ifCond .ne 23, 3) := by decide +kernel
theorem d_M_workComponent_21 : decode b_M_workComponent 21 = .ok (.aload_n 0, 1) := by decide +kernel
theorem d_M_workComponent_22 : decode b_M_workComponent 22 = .ok (.getfield 177, 3) := by decide +kernel
theorem d_M_workComponent_25 : decode b_M_workComponent 25 = .ok (.iload 5, 2) := by decide +kernel
theorem d_M_workComponent_27 : decode b_M_workComponent 27 = .ok (.iaload, 1) := by decide +kernel
theorem d_M_workComponent_28 : decode b_M_workComponent 28 = .ok (.iload_n 1, 1) := by decide +kernel
theorem d_M_workComponent_29 : decode b_M_workComponent 29 = .ok (.if_icmp .ne 16, 3) := by decide +kernel
theorem d_M_workComponent_32 : decode b_M_workComponent 32 = .ok (.aload_n 0, 1) := by decide +kernel
theorem d_M_workComponent_33 : decode b_M_workComponent 33 = .ok (.iload 5, 2) := by decide +kernel
theorem d_M_workComponent_35 : decode b_M_workComponent 35 = .ok (.invokevirtual 442, 3) := by decide +kernel
theorem d_M_workComponent_38 : decode b_M_workComponent 38 = .ok (.ifCond .eq 7, 3) := by decide +kernel
theorem d_M_workComponent_41 : decode b_M_workComponent 41 = .ok (.iconst 1, 1) := by decide +kernel
theorem d_M_workComponent_42 : decode b_M_workComponent 42 = .ok (.goto 4, 3) := by decide +kernel
theorem d_M_workComponent_45 : decode b_M_workComponent 45 = .ok (.iconst 0, 1) := by decide +kernel
theorem d_M_workComponent_46 : decode b_M_workComponent 46 = .ok (.istore_n 3, 1) := by decide +kernel
theorem d_M_workComponent_47 : decode b_M_workComponent 47 = .ok (.iload 4, 2) := by decide +kernel
theorem d_M_workComponent_49 : decode b_M_workComponent 49 = .ok (.ifCond .ne 33, 3) := by decide +kernel
theorem d_M_workComponent_52 : decode b_M_workComponent 52 = .ok (.aload_n 0, 1) := by decide +kernel
theorem d_M_workComponent_53 : decode b_M_workComponent 53 = .ok (.getfield 177, 3) := by decide +kernel
theorem d_M_workComponent_56 : decode b_M_workComponent 56 = .ok (.iload 5, 2) := by decide +kernel
theorem d_M_workComponent_58 : decode b_M_workComponent 58 = .ok (.iaload, 1) := by decide +kernel
theorem d_M_workComponent_59 : decode b_M_workComponent 59 = .ok (.iload_n 1, 1) := by decide +kernel
theorem d_M_workComponent_60 : decode b_M_workComponent 60 = .ok (.if_icmp .ne 26, 3) := by decide +kernel
theorem d_M_workComponent_63 : decode b_M_workComponent 63 = .ok (.aload_n 0, 1) := by decide +kernel
theorem d_M_workComponent_64 : decode b_M_workComponent 64 = .ok (.iload 5, 2) := by decide +kernel
theorem d_M_workComponent_66 : decode b_M_workComponent 66 = .ok (.invokevirtual 442, 3) := by decide +kernel
theorem d_M_workComponent_69 : decode b_M_workComponent 69 = .ok (.ifCond .eq 17, 3) := by decide +kernel
theorem d_M_workComponent_72 : decode b_M_workComponent 72 = .ok (.aload_n 0, 1) := by decide +kernel
theorem d_M_workComponent_73 : decode b_M_workComponent 73 = .ok (.getfield 69, 3) := by decide +kernel
theorem d_M_workComponent_76 : decode b_M_workComponent 76 = .ok (.iload 5, 2) := by decide +kernel
theorem d_M_workComponent_78 : decode b_M_workComponent 78 = .ok (.baload, 1) := by decide +kernel
theorem d_M_workComponent_79 : decode b_M_workComponent 79 = .ok (.ifCond .eq 7, 3) := by decide +kernel
theorem d_M_workComponent_82 : decode b_M_workComponent 82 = .ok (.iconst 1, 1) := by decide +kernel
theorem d_M_workComponent_83 : decode b_M_workComponent 83 = .ok (.goto 4, 3) := by decide +kernel
theorem d_M_workComponent_86 : decode b_M_workComponent 86 = .ok (.iconst 0, 1) := by decide +kernel
theorem d_M_workComponent_87 : decode b_M_workComponent 87 = .ok (.istore 4, 2) := by decide +kernel
theorem d_M_workComponent_89 : decode b_M_workComponent 89 = .ok (.iinc 5 1, 3) := by decide +kernel
theorem d_M_workComponent_92 : decode b_M_workComponent 92 = .ok (.goto (-84), 3) := by decide +kernel
theorem d_M_workComponent_95 : decode b_M_workComponent 95 = .ok (.iconst 0, 1) := by decide +kernel
theorem d_M_workComponent_96 : decode b_M_workComponent 96 = .ok (.istore 5, 2) := by decide +kernel
theorem d_M_workComponent_98 : decode b_M_workComponent 98 = .ok (.aload_n 0, 1) := by decide +kernel
theorem d_M_workComponent_99 : decode b_M_workComponent 99 = .ok (.getfield 489, 3) := by decide +kernel
theorem d_M_workComponent_102 : decode b_M_workComponent 102 = .ok (.istore 6, 2) := by decide +kernel
theorem d_M_workComponent_104 : decode b_M_workComponent 104 = .ok (.iconst 1, 1) := by decide +kernel
theorem d_M_workComponent_105 : decode b_M_workComponent 105 = .ok (.istore 7, 2) := by decide +kernel
theorem d_M_workComponent_107 : decode b_M_workComponent 107 = .ok (.iload 7, 2) := by decide +kernel
theorem d_M_workComponent_109 : decode b_M_workComponent 109 = .ok (.ifCond .eq 116, 3) := by decide +kernel
theorem d_M_workComponent_112 : decode b_M_workComponent 112 = .ok (.aload_n 0, 1) := by decide +kernel
theorem d_M_workComponent_113 : decode b_M_workComponent 113 = .ok (.getfield 238, 3) := by decide +kernel
theorem d_M_workComponent_116 : decode b_M_workComponent 116 = .ok (.ifCond .ne 109, 3) := by decide +kernel
theorem d_M_workComponent_119 : decode b_M_workComponent 119 = .ok (.aload_n 0, 1) := by decide +kernel
theorem d_M_workComponent_120 : decode b_M_workComponent 120 = .ok (.getfield 489, 3) := by decide +kernel
theorem d_M_workComponent_123 : decode b_M_workComponent 123 = .ok (.istore 8, 2) := by decide +kernel
theorem d_M_workComponent_125 : decode b_M_workComponent 125 = .ok (.aload_n 0, 1) := by decide +kernel
theorem d_M_workComponent_126 : decode b_M_workComponent 126 = .ok (.iload_n 1, 1) := by decide +kernel
theorem d_M_workComponent_127 : decode b_M_workComponent 127 = .ok (.iload 4, 2) := by decide +kernel
theorem d_M_workComponent_129 : decode b_M_workComponent 129 = .ok (.ifCond .eq 8, 3) := by decide +kernel
theorem d_M_workComponent_132 : decode b_M_workComponent 132 = .ok (.iload 6, 2) := by decide +kernel
theorem d_M_workComponent_134 : decode b_M_workComponent 134 = .ok (.goto 4, 3) := by decide +kernel
theorem d_M_workComponent_137 : decode b_M_workComponent 137 = .ok (.iconst 0, 1) := by decide +kernel
theorem d_M_workComponent_138 : decode b_M_workComponent 138 = .ok (.iload 8, 2) := by decide +kernel
theorem d_M_workComponent_140 : decode b_M_workComponent 140 = .ok (.iload 5, 2) := by decide +kernel
theorem d_M_workComponent_142 : decode b_M_workComponent 142 = .ok (.ifCond .ne 7, 3) := by decide +kernel
theorem d_M_workComponent_145 : decode b_M_workComponent 145 = .ok (.iconst 1, 1) := by decide +kernel
theorem d_M_workComponent_146 : decode b_M_workComponent 146 = .ok (.goto 4, 3) := by decide +kernel
theorem d_M_workComponent_149 : decode b_M_workComponent 149 = .ok (.iconst 0, 1) := by decide +kernel
theorem d_M_workComponent_150 : decode b_M_workComponent 150 = .ok (.invokevirtual 595, 3) := by decide +kernel
theorem d_M_workComponent_153 : decode b_M_workComponent 153 = .ok (.iload 8, 2) := by decide +kernel
theorem d_M_workComponent_155 : decode b_M_workComponent 155 = .ok (.istore 6, 2) := by decide +kernel
theorem d_M_workComponent_157 : decode b_M_workComponent 157 = .ok (.aload_n 0, 1) := by decide +kernel
theorem d_M_workComponent_158 : decode b_M_workComponent 158 = .ok (.getfield 210, 3) := by decide +kernel
theorem d_M_workComponent_161 : decode b_M_workComponent 161 = .ok (.bipush 32, 2) := by decide +kernel
theorem d_M_workComponent_163 : decode b_M_workComponent 163 = .ok (.iload_n 1, 1) := by decide +kernel
theorem d_M_workComponent_164 : decode b_M_workComponent 164 = .ok (.imul, 1) := by decide +kernel
theorem d_M_workComponent_165 : decode b_M_workComponent 165 = .ok (.iload 5, 2) := by decide +kernel
theorem d_M_workComponent_167 : decode b_M_workComponent 167 = .ok (.iadd, 1) := by decide +kernel
theorem d_M_workComponent_168 : decode b_M_workComponent 168 = .ok (.aload_n 0, 1) := by decide +kernel
theorem d_M_workComponent_169 : decode b_M_workComponent 169 = .ok (.getfield 489, 3) := by decide +kernel
theorem d_M_workComponent_172 : decode b_M_workComponent 172 = .ok (.iload 8, 2) := by decide +kernel
theorem d_M_workComponent_174 : decode b_M_workComponent 174 = .ok (.isub, 1) := by decide +kernel
theorem d_M_workComponent_175 : decode b_M_workComponent 175 = .ok (.iastore, 1) := by decide +kernel
theorem d_M_workComponent_176 : decode b_M_workComponent 176 = .ok (.iinc 5 1, 3) := by decide +kernel
theorem d_M_workComponent_179 : decode b_M_workComponent 179 = .ok (.iload_n 3, 1) := by decide +kernel
theorem d_M_workComponent_180 : decode b_M_workComponent 180 = .ok (.ifCond .eq 16, 3) := by decide +kernel
theorem d_M_workComponent_183 : decode b_M_workComponent 183 = .ok (.aload_n 0, 1) := by decide +kernel
theorem d_M_workComponent_184 : decode b_M_workComponent 184 = .ok (.getfield 489, 3) := by decide +kernel
theorem d_M_workComponent_187 : decode b_M_workComponent 187 = .ok (.iload 8, 2) := by decide +kernel
theorem d_M_workComponent_189 : decode b_M_workComponent 189 = .ok (.if_icmp .le 7, 3) := by decide +kernel
theorem d_M_workComponent_192 : decode b_M_workComponent 192 = .ok (.iconst 1, 1) := by decide +kernel
theorem d_M_workComponent_193 : decode b_M_workComponent 193 = .ok (.goto 4, 3) := by decide +kernel
theorem d_M_workComponent_196 : decode b_M_workComponent 196 = .ok (.iconst 0, 1) := by decide +kernel
theorem d_M_workComponent_197 : decode b_M_workComponent 197 = .ok (.istore 7, 2) := by decide +kernel
theorem d_M_workComponent_199 : decode b_M_workComponent 199 = .ok (.iload 7, 2) := by decide +kernel
theorem d_M_workComponent_201 : decode b_M_workComponent 201 = .ok (.ifCond .eq 21, 3) := by decide +kernel
theorem d_M_workComponent_204 : decode b_M_workComponent 204 = .ok (.aload_n 0, 1) := by decide +kernel
theorem d_M_workComponent_205 : decode b_M_workComponent 205 = .ok (.getfield 238, 3) := by decide +kernel
theorem d_M_workComponent_208 : decode b_M_workComponent 208 = .ok (.ifCond .ne 14, 3) := by decide +kernel
theorem d_M_workComponent_211 : decode b_M_workComponent 211 = .ok (.iload 5, 2) := by decide +kernel
theorem d_M_workComponent_213 : decode b_M_workComponent 213 = .ok (.iload_n 2, 1) := by decide +kernel
theorem d_M_workComponent_214 : decode b_M_workComponent 214 = .ok (.if_icmp .ne 8, 3) := by decide +kernel
theorem d_M_workComponent_217 : decode b_M_workComponent 217 = .ok (.aload_n 0, 1) := by decide +kernel
theorem d_M_workComponent_218 : decode b_M_workComponent 218 = .ok (.iconst 4, 1) := by decide +kernel
theorem d_M_workComponent_219 : decode b_M_workComponent 219 = .ok (.putfield 238, 3) := by decide +kernel
theorem d_M_workComponent_222 : decode b_M_workComponent 222 = .ok (.goto (-115), 3) := by decide +kernel
theorem d_M_workComponent_225 : decode b_M_workComponent 225 = .ok (.aload_n 0, 1) := by decide +kernel
theorem d_M_workComponent_226 : decode b_M_workComponent 226 = .ok (.getfield 207, 3) := by decide +kernel
theorem d_M_workComponent_229 : decode b_M_workComponent 229 = .ok (.iload_n 1, 1) := by decide +kernel
theorem d_M_workComponent_230 : decode b_M_workComponent 230 = .ok (.iload 5, 2) := by decide +kernel
theorem d_M_workComponent_232 : decode b_M_workComponent 232 = .ok (.iastore, 1) := by decide +kernel
theorem d_M_workComponent_233 : decode b_M_workComponent 233 = .ok (.return_, 1) := by decide +kernel
theorem d_M_run_0 : decode b_M_run 0 = .ok (.aload_n 0, 1) := by decide +kernel
theorem d_M_run_1 : decode b_M_run 1 = .ok (.iload_n 1, 1) := by decide +kernel
theorem d_M_run_2 : decode b_M_run 2 = .ok (.iconst 1, 1) := by decide +kernel
theorem d_M_run_3 : decode b_M_run 3 = .ok (.if_icmp .lt 20, 3) := by decide +kernel
theorem d_M_run_6 : decode b_M_run 6 = .ok (.iload_n 1, 1) := by decide +kernel
theorem d_M_run_7 : decode b_M_run 7 = .ok (.bipush 30, 2) := by decide +kernel
theorem d_M_run_9 : decode b_M_run 9 = .ok (.if_icmp .gt 14, 3) := by decide +kernel
theorem d_M_run_12 : decode b_M_run 12 = .ok (.iload_n 2, 1) := by decide +kernel
theorem d_M_run_13 : decode b_M_run 13 = .ok (.iconst 1, 1) := by decide +kernel
theorem d_M_run_14 : decode b_M_run 14 = .ok (.if_icmp .lt 9, 3) := by decide +kernel
theorem d_M_run_17 : decode b_M_run 17 = .ok (.iload_n 2, 1) := by decide +kernel
theorem d_M_run_18 : decode b_M_run 18 = .ok (.bipush 48, 2) := by decide +kernel
theorem d_M_run_20 : decode b_M_run 20 = .ok (.if_icmp .le 7, 3) := by decide +kernel
theorem d_M_run_23 : decode b_M_run 23 = .ok (.iconst 1, 1) := by decide +kernel
theorem d_M_run_24 : decode b_M_run 24 = .ok (.goto 15, 3) := by decide +kernel
theorem d_M_run_27 : decode b_M_run 27 = .ok (.aload_n 0, 1) := by decide +kernel
theorem d_M_run_28 : decode b_M_run 28 = .ok (.getfield 451, 3) := by decide +kernel
theorem d_M_run_31 : decode b_M_run 31 = .ok (.ifCond .ne 7, 3) := by decide +kernel
theorem d_M_run_34 : decode b_M_run 34 = .ok (.iconst 2, 1) := by decide +kernel
theorem d_M_run_35 : decode b_M_run 35 = .ok (.goto 4, 3) := by decide +kernel
theorem d_M_run_38 : decode b_M_run 38 = .ok (.iconst 0, 1) := by decide +kernel
theorem d_M_run_39 : decode b_M_run 39 = .ok (.putfield 238, 3) := by decide +kernel
theorem d_M_run_42 : decode b_M_run 42 = .ok (.aload_n 0, 1) := by decide +kernel
theorem d_M_run_43 : decode b_M_run 43 = .ok (.getfield 238, 3) := by decide +kernel
theorem d_M_run_46 : decode b_M_run 46 = .ok (.ifCond .le 5, 3) := by decide +kernel
theorem d_M_run_49 : decode b_M_run 49 = .ok (.iconst 0, 1) := by decide +kernel
theorem d_M_run_50 : decode b_M_run 50 = .ok (.ireturn, 1) := by decide +kernel
theorem d_M_run_51 : decode b_M_run 51 = .ok (.aload_n 0, 1) := by decide +kernel
theorem d_M_run_52 : decode b_M_run 52 = .ok (.iconst 0, 1) := by decide +kernel
theorem d_M_run_53 : decode b_M_run 53 = .ok (.putfield 454, 3) := by decide +kernel
theorem d_M_run_56 : decode b_M_run 56 = .ok (.aload_n 0, 1) := by decide +kernel
theorem d_M_run_57 : decode b_M_run 57 = .ok (.iload_n 2, 1) := by decide +kernel
theorem d_M_run_58 : decode b_M_run 58 = .ok (.putfield 553, 3) := by decide +kernel
theorem d_M_run_61 : decode b_M_run 61 = .ok (.aload_n 0, 1) := by decide +kernel
theorem d_M_run_62 : decode b_M_run 62 = .ok (.iconst 0, 1) := by decide +kernel
theorem d_M_run_63 : decode b_M_run 63 = .ok (.putfield 489, 3) := by decide +kernel
theorem d_M_run_66 : decode b_M_run 66 = .ok (.aload_n 0, 1) := by decide +kernel
theorem d_M_run_67 : decode b_M_run 67 = .ok (.iconst 0, 1) := by decide +kernel
theorem d_M_run_68 : decode b_M_run 68 = .ok (.putfield 569, 3) := by decide +kernel
theorem d_M_run_71 : decode b_M_run 71 = .ok (.iconst 0, 1) := by decide +kernel
theorem d_M_run_72 : decode b_M_run 72 = .ok (.istore_n 3, 1) := by decide +kernel
theorem d_M_run_73 : decode b_M_run 73 = .ok (.iload_n 3, 1) := by decide +kernel
theorem d_M_run_74 : decode b_M_run 74 = .ok (.aload_n 0, 1) := by decide +kernel
theorem d_M_run_75 : decode b_M_run 75 = .ok (.getfield 436, 3) := by decide +kernel
theorem d_M_run_78 : decode b_M_run 78 = .ok (.if_icmp .ge 22, 3) := by decide +kernel
theorem d_M_run_81 : decode b_M_run 81 = .ok (.aload_n 0, 1) := by decide +kernel
theorem d_M_run_82 : decode b_M_run 82 = .ok (.getfield 238, 3) := by decide +kernel
theorem d_M_run_85 : decode b_M_run 85 = .ok (.ifCond .ne 15, 3) := by decide +kernel
theorem d_M_run_88 : decode b_M_run 88 = .ok (.aload_n 0, 1) := by decide +kernel
theorem d_M_run_89 : decode b_M_run 89 = .ok (.iload_n 3, 1) := by decide +kernel
theorem d_M_run_90 : decode b_M_run 90 = .ok (.iload_n 1, 1) := by decide +kernel
theorem d_M_run_91 : decode b_M_run 91 = .ok (.invokevirtual 598, 3) := by decide +kernel
theorem d_M_run_94 : decode b_M_run 94 = .ok (.iinc 3 1, 3) := by decide +kernel
theorem d_M_run_97 : decode b_M_run 97 = .ok (.goto (-24), 3) := by decide +kernel
theorem d_M_run_100 : decode b_M_run 100 = .ok (.aload_n 0, 1) := by decide +kernel
theorem d_M_run_101 : decode b_M_run 101 = .ok (.aload_n 0, 1) := by decide +kernel
theorem d_M_run_102 : decode b_M_run 102 = .ok (.getfield 87, 3) := by decide +kernel
theorem d_M_run_105 : decode b_M_run 105 = .ok (.aload_n 0, 1) := by decide +kernel
theorem d_M_run_106 : decode b_M_run 106 = .ok (.getfield 336, 3) := by decide +kernel
theorem d_M_run_109 : decode b_M_run 109 = .ok (.iconst 1, 1) := by decide +kernel
theorem d_M_run_110 : decode b_M_run 110 = .ok (.isub, 1) := by decide +kernel
theorem d_M_run_111 : decode b_M_run 111 = .ok (.iaload, 1) := by decide +kernel
theorem d_M_run_112 : decode b_M_run 112 = .ok (.putfield 586, 3) := by decide +kernel
theorem d_M_run_115 : decode b_M_run 115 = .ok (.aload_n 0, 1) := by decide +kernel
theorem d_M_run_116 : decode b_M_run 116 = .ok (.getfield 238, 3) := by decide +kernel
theorem d_M_run_119 : decode b_M_run 119 = .ok (.ifCond .ne 19, 3) := by decide +kernel
theorem d_M_run_122 : decode b_M_run 122 = .ok (.aload_n 0, 1) := by decide +kernel
theorem d_M_run_123 : decode b_M_run 123 = .ok (.aload_n 0, 1) := by decide +kernel
theorem d_M_run_124 : decode b_M_run 124 = .ok (.getfield 336, 3) := by decide +kernel
theorem d_M_run_127 : decode b_M_run 127 = .ok (.iconst 1, 1) := by decide +kernel
theorem d_M_run_128 : decode b_M_run 128 = .ok (.isub, 1) := by decide +kernel
theorem d_M_run_129 : decode b_M_run 129 = .ok (.iconst 0, 1) := by decide +kernel
theorem d_M_run_130 : decode b_M_run 130 = .ok (.iconst 0, 1) := by decide +kernel
theorem d_M_run_131 : decode b_M_run 131 = .ok (.aload_n 0, 1) := by decide +kernel
theorem d_M_run_132 : decode b_M_run 132 = .ok (.getfield 489, 3) := by decide +kernel
theorem d_M_run_135 : decode b_M_run 135 = .ok (.invokevirtual 592, 3) := by decide +kernel
theorem d_M_run_138 : decode b_M_run 138 = .ok (.aload_n 0, 1) := by decide +kernel
theorem d_M_run_139 : decode b_M_run 139 = .ok (.getfield 238, 3) := by decide +kernel
theorem d_M_run_142 : decode b_M_run 142 = .ok (.ifCond .le 5, 3) := by decide +kernel
theorem d_M_run_145 : decode b_M_run 145 = .ok (.iconst 0, 1) := by decide +kernel
theorem d_M_run_146 : decode b_M_run 146 = .ok (.ireturn, 1) := by decide +kernel
theorem d_M_run_147 : decode b_M_run 147 = .ok (.aload_n 0, 1) := by decide +kernel
theorem d_M_run_148 : decode b_M_run 148 = .ok (.invokevirtual 601, 3) := by decide +kernel
theorem d_M_run_151 : decode b_M_run 151 = .ok (.aload_n 0, 1) := by decide +kernel
theorem d_M_run_152 : decode b_M_run 152 = .ok (.iconst 1, 1) := by decide +kernel
theorem d_M_run_153 : decode b_M_run 153 = .ok (.putfield 454, 3) := by decide +kernel
theorem d_M_run_156 : decode b_M_run 156 = .ok (.aload_n 0, 1) := by decide +kernel
theorem d_M_run_157 : decode b_M_run 157 = .ok (.aload_n 0, 1) := by decide +kernel
theorem d_M_run_158 : decode b_M_run 158 = .ok (.getfield 330, 3) := by decide +kernel
theorem d_M_run_161 : decode b_M_run 161 = .ok (.putfield 604, 3) := by decide +kernel
theorem d_M_run_164 : decode b_M_run 164 = .ok (.aload_n 0, 1) := by decide +kernel
theorem d_M_run_165 : decode b_M_run 165 = .ok (.aload_n 0, 1) := by decide +kernel
theorem d_M_run_166 : decode b_M_run 166 = .ok (.getfield 436, 3) := by decide +kernel
theorem d_M_run_169 : decode b_M_run 169 = .ok (.putfield 607, 3) := by decide +kernel
theorem d_M_run_172 : decode b_M_run 172 = .ok (.iconst 0, 1) := by decide +kernel
theorem d_M_run_173 : decode b_M_run 173 = .ok (.istore_n 3, 1) := by decide +kernel
theorem d_M_run_174 : decode b_M_run 174 = .ok (.iload_n 3, 1) := by decide +kernel
theorem d_M_run_175 : decode b_M_run 175 = .ok (.aload_n 0, 1) := by decide +kernel
theorem d_M_run_176 : decode b_M_run 176 = .ok (.getfield 330, 3) := by decide +kernel
theorem d_M_run_179 : decode b_M_run 179 = .ok (.if_icmp .ge 59, 3) := by decide +kernel
theorem d_M_run_182 : decode b_M_run 182 = .ok (.aload_n 0, 1) := by decide +kernel
theorem d_M_run_183 : decode b_M_run 183 = .ok (.getfield 213, 3) := by decide +kernel
theorem d_M_run_186 : decode b_M_run 186 = .ok (.iload_n 3, 1) := by decide +kernel
theorem d_M_run_187 : decode b_M_run 187 = .ok (.iconst 0, 1) := by decide +kernel
theorem d_M_run_188 : decode b_M_run 188 = .ok (.iastore, 1) := by decide +kernel
theorem d_M_run_189 : decode b_M_run 189 = .ok (.iconst 0, 1) := by decide +kernel
theorem d_M_run_190 : decode b_M_run 190 = .ok (.istore 4, 2) := by decide +kernel
theorem d_M_run_192 : decode b_M_run 192 = .ok (.iload 4, 2) := by decide +kernel
theorem d_M_run_194 : decode b_M_run 194 = .ok (.aload_n 0, 1) := by decide +kernel
theorem d_M_run_195 : decode b_M_run 195 = .ok (.getfield 489, 3) := by decide +kernel
