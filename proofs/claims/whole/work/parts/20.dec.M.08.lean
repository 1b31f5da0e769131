theorem d_M_makeGroups_95 : decode b_M_makeGroups 95 = .ok (.getfield 553, 3) := by decide +kernel
theorem d_M_makeGroups_98 : decode b_M_makeGroups 98 = .ok (.if_icmp .le 6, 3) := by decide +kernel
theorem d_M_makeGroups_101 : decode b_M_makeGroups 101 = .ok (.goto 79, 3) := by decide +kernel
theorem d_M_makeGroups_104 : decode b_M_makeGroups 104 = .ok (.aload_n 0, 1) := by decide +kernel
theorem d_M_makeGroups_105 : decode b_M_makeGroups 105 = .ok (.iload_n 1, 1) := by decide +kernel
theorem d_M_makeGroups_106 : decode b_M_makeGroups 106 = .ok (.invokevirtual 547, 3) := by decide +kernel
theorem d_M_makeGroups_109 : decode b_M_makeGroups 109 = .ok (.iconst 0, 1) := by decide +kernel
theorem d_M_makeGroups_110 : decode b_M_makeGroups 110 = .ok (.istore 5, 2) := by decide +kernel
theorem d_M_makeGroups_112 : decode b_M_makeGroups 112 = .ok (.iload 5, 2) := by decide +kernel
theorem d_M_makeGroups_114 : decode b_M_makeGroups 114 = .ok (.aload_n 0, 1) := by decide +kernel
theorem d_M_makeGroups_115 : decode b_M_makeGroups 115 = .ok (.getfield 87, 3) := by decide +kernel
theorem d_M_makeGroups_118 : decode b_M_makeGroups 118 = .ok (.iload_n 1, 1) := by decide +kernel
theorem d_M_makeGroups_119 : decode b_M_makeGroups 119 = .ok (.iaload, 1) := by decide +kernel
theorem d_M_makeGroups_120 : decode b_M_makeGroups 120 = .ok (.if_icmp .ge 60, 3) := by decide +kernel
theorem d_M_makeGroups_123 : decode b_M_makeGroups 123 = .ok (.aload_n 0, 1) := by decide +kernel
theorem d_M_makeGroups_124 : decode b_M_makeGroups 124 = .ok (.aload_n 0, 1) := by decide +kernel
theorem d_M_makeGroups_125 : decode b_M_makeGroups 125 = .ok (.iload_n 1, 1) := by decide +kernel
theorem d_M_makeGroups_126 : decode b_M_makeGroups 126 = .ok (.iload 5, 2) := by decide +kernel
theorem d_M_makeGroups_128 : decode b_M_makeGroups 128 = .ok (.invokevirtual 523, 3) := by decide +kernel
theorem d_M_makeGroups_131 : decode b_M_makeGroups 131 = .ok (.iconst 4, 1) := by decide +kernel
theorem d_M_makeGroups_132 : decode b_M_makeGroups 132 = .ok (.iload 4, 2) := by decide +kernel
theorem d_M_makeGroups_134 : decode b_M_makeGroups 134 = .ok (.imul, 1) := by decide +kernel
theorem d_M_makeGroups_135 : decode b_M_makeGroups 135 = .ok (.iload 5, 2) := by decide +kernel
theorem d_M_makeGroups_137 : decode b_M_makeGroups 137 = .ok (.iadd, 1) := by decide +kernel
theorem d_M_makeGroups_138 : decode b_M_makeGroups 138 = .ok (.aload_n 0, 1) := by decide +kernel
theorem d_M_makeGroups_139 : decode b_M_makeGroups 139 = .ok (.iload_n 1, 1) := by decide +kernel
theorem d_M_makeGroups_140 : decode b_M_makeGroups 140 = .ok (.iload 5, 2) := by decide +kernel
theorem d_M_makeGroups_142 : decode b_M_makeGroups 142 = .ok (.invokevirtual 523, 3) := by decide +kernel
theorem d_M_makeGroups_145 : decode b_M_makeGroups 145 = .ok (.ifCond .eq 15, 3) := by decide +kernel
theorem d_M_makeGroups_148 : decode b_M_makeGroups 148 = .ok (.aload_n 0, 1) := by decide +kernel
theorem d_M_makeGroups_149 : decode b_M_makeGroups 149 = .ok (.iload_n 1, 1) := by decide +kernel
theorem d_M_makeGroups_150 : decode b_M_makeGroups 150 = .ok (.iload 5, 2) := by decide +kernel
theorem d_M_makeGroups_152 : decode b_M_makeGroups 152 = .ok (.invokevirtual 523, 3) := by decide +kernel
theorem d_M_makeGroups_155 : decode b_M_makeGroups 155 = .ok (.bipush 21, 2) := by decide +kernel
theorem d_M_makeGroups_157 : decode b_M_makeGroups 157 = .ok (.if_icmp .ne 7, 3) := by decide +kernel
theorem d_M_makeGroups_160 : decode b_M_makeGroups 160 = .ok (.lconst 0, 1) := by decide +kernel
theorem d_M_makeGroups_161 : decode b_M_makeGroups 161 = .ok (.goto 10, 3) := by decide +kernel
theorem d_M_makeGroups_164 : decode b_M_makeGroups 164 = .ok (.aload_n 0, 1) := by decide +kernel
theorem d_M_makeGroups_165 : decode b_M_makeGroups 165 = .ok (.iload_n 1, 1) := by decide +kernel
theorem d_M_makeGroups_166 : decode b_M_makeGroups 166 = .ok (.iload 5, 2) := by decide +kernel
theorem d_M_makeGroups_168 : decode b_M_makeGroups 168 = .ok (.invokevirtual 526, 3) := by decide +kernel
theorem d_M_makeGroups_171 : decode b_M_makeGroups 171 = .ok (.invokevirtual 556, 3) := by decide +kernel
theorem d_M_makeGroups_174 : decode b_M_makeGroups 174 = .ok (.iinc 5 1, 3) := by decide +kernel
theorem d_M_makeGroups_177 : decode b_M_makeGroups 177 = .ok (.goto (-65), 3) := by decide +kernel
theorem d_M_makeGroups_180 : decode b_M_makeGroups 180 = .ok (.aload_n 0, 1) := by decide +kernel
theorem d_M_makeGroups_181 : decode b_M_makeGroups 181 = .ok (.iload_n 1, 1) := by decide +kernel
theorem d_M_makeGroups_182 : decode b_M_makeGroups 182 = .ok (.invokevirtual 532, 3) := by decide +kernel
theorem d_M_makeGroups_185 : decode b_M_makeGroups 185 = .ok (.istore_n 3, 1) := by decide +kernel
theorem d_M_makeGroups_186 : decode b_M_makeGroups 186 = .ok (.goto (-127), 3) := by decide +kernel
theorem d_M_makeGroups_189 : decode b_M_makeGroups 189 = .ok (.aload_n 0, 1) := by decide +kernel
theorem d_M_makeGroups_190 : decode b_M_makeGroups 190 = .ok (.getfield 541, 3) := by decide +kernel
theorem d_M_makeGroups_193 : decode b_M_makeGroups 193 = .ok (.aload_n 0, 1) := by decide +kernel
theorem d_M_makeGroups_194 : decode b_M_makeGroups 194 = .ok (.getfield 553, 3) := by decide +kernel
theorem d_M_makeGroups_197 : decode b_M_makeGroups 197 = .ok (.if_icmp .le 8, 3) := by decide +kernel
theorem d_M_makeGroups_200 : decode b_M_makeGroups 200 = .ok (.aload_n 0, 1) := by decide +kernel
theorem d_M_makeGroups_201 : decode b_M_makeGroups 201 = .ok (.iconst 4, 1) := by decide +kernel
theorem d_M_makeGroups_202 : decode b_M_makeGroups 202 = .ok (.putfield 238, 3) := by decide +kernel
theorem d_M_makeGroups_205 : decode b_M_makeGroups 205 = .ok (.return_, 1) := by decide +kernel
theorem d_M_checkGroups_0 : decode b_M_checkGroups 0 = .ok (.iconst 0, 1) := by decide +kernel
theorem d_M_checkGroups_1 : decode b_M_checkGroups 1 = .ok (.istore_n 2, 1) := by decide +kernel
theorem d_M_checkGroups_2 : decode b_M_checkGroups 2 = .ok (.iload_n 2, 1) := by decide +kernel
theorem d_M_checkGroups_3 : decode b_M_checkGroups 3 = .ok (.aload_n 0, 1) := by decide +kernel
theorem d_M_checkGroups_4 : decode b_M_checkGroups 4 = .ok (.getfield 541, 3) := by decide +kernel
theorem d_M_checkGroups_7 : decode b_M_checkGroups 7 = .ok (.if_icmp .ge 74, 3) := by decide +kernel
theorem d_M_checkGroups_10 : decode b_M_checkGroups 10 = .ok (.iconst 0, 1) := by decide +kernel
theorem d_M_checkGroups_11 : decode b_M_checkGroups 11 = .ok (.istore_n 3, 1) := by decide +kernel
theorem d_M_checkGroups_12 : decode b_M_checkGroups 12 = .ok (.iload_n 3, 1) := by decide +kernel
theorem d_M_checkGroups_13 : decode b_M_checkGroups 13 = .ok (.aload_n 0, 1) := by decide +kernel
theorem d_M_checkGroups_14 : decode b_M_checkGroups 14 = .ok (.getfield 87, 3) := by decide +kernel
theorem d_M_checkGroups_17 : decode b_M_checkGroups 17 = .ok (.iload_n 1, 1) := by decide +kernel
theorem d_M_checkGroups_18 : decode b_M_checkGroups 18 = .ok (.iaload, 1) := by decide +kernel
theorem d_M_checkGroups_19 : decode b_M_checkGroups 19 = .ok (.if_icmp .ge 56, 3) := by decide +kernel
theorem d_M_checkGroups_22 : decode b_M_checkGroups 22 = .ok (.aload_n 0, 1) := by decide +kernel
theorem d_M_checkGroups_23 : decode b_M_checkGroups 23 = .ok (.iload_n 1, 1) := by decide +kernel
theorem d_M_checkGroups_24 : decode b_M_checkGroups 24 = .ok (.iload_n 3, 1) := by decide +kernel
theorem d_M_checkGroups_25 : decode b_M_checkGroups 25 = .ok (.invokevirtual 523, 3) := by decide +kernel
theorem d_M_checkGroups_28 : decode b_M_checkGroups 28 = .ok (.bipush 22, 2) := by decide +kernel
theorem d_M_checkGroups_30 : decode b_M_checkGroups 30 = .ok (.if_icmp .lt 39, 3) := by decide +kernel
theorem d_M_checkGroups_33 : decode b_M_checkGroups 33 = .ok (.aload_n 0, 1) := by decide +kernel
theorem d_M_checkGroups_34 : decode b_M_checkGroups 34 = .ok (.getfield 231, 3) := by decide +kernel
theorem d_M_checkGroups_37 : decode b_M_checkGroups 37 = .ok (.iconst 4, 1) := by decide +kernel
theorem d_M_checkGroups_38 : decode b_M_checkGroups 38 = .ok (.iload_n 2, 1) := by decide +kernel
theorem d_M_checkGroups_39 : decode b_M_checkGroups 39 = .ok (.imul, 1) := by decide +kernel
theorem d_M_checkGroups_40 : decode b_M_checkGroups 40 = .ok (.iload_n 3, 1) := by decide +kernel
theorem d_M_checkGroups_41 : decode b_M_checkGroups 41 = .ok (.iadd, 1) := by decide +kernel
theorem d_M_checkGroups_42 : decode b_M_checkGroups 42 = .ok (.laload, 1) := by decide +kernel
theorem d_M_checkGroups_43 : decode b_M_checkGroups 43 = .ok (.lconst 0, 1) := by decide +kernel
theorem d_M_checkGroups_44 : decode b_M_checkGroups 44 = .ok (.lcmp, 1) := by decide +kernel
theorem d_M_checkGroups_45 : decode b_M_checkGroups 45 = .ok (.ifCond .le 24, 3) := by decide +kernel
theorem d_M_checkGroups_48 : decode b_M_checkGroups 48 = .ok (.aload_n 0, 1) := by decide +kernel
theorem d_M_checkGroups_49 : decode b_M_checkGroups 49 = .ok (.getfield 228, 3) := by decide +kernel
theorem d_M_checkGroups_52 : decode b_M_checkGroups 52 = .ok (.iconst 4, 1) := by decide +kernel
theorem d_M_checkGroups_53 : decode b_M_checkGroups 53 = .ok (.iload_n 2, 1) := by decide +kernel
theorem d_M_checkGroups_54 : decode b_M_checkGroups 54 = .ok (.imul, 1) := by decide +kernel
theorem d_M_checkGroups_55 : decode b_M_checkGroups 55 = .ok (.iload_n 3, 1) := by decide +kernel
theorem d_M_checkGroups_56 : decode b_M_checkGroups 56 = .ok (.iadd, 1) := by decide +kernel
theorem d_M_checkGroups_57 : decode b_M_checkGroups 57 = .ok (.laload, 1) := by decide +kernel
theorem d_M_checkGroups_58 : decode b_M_checkGroups 58 = .ok (.invokestatic 509, 3) := by decide +kernel
theorem d_M_checkGroups_61 : decode b_M_checkGroups 61 = .ok (.ifCond .ne 8, 3) := by decide +kernel
theorem d_M_checkGroups_64 : decode b_M_checkGroups 64 = .ok (.aload_n 0, 1) := by decide +kernel
theorem d_M_checkGroups_65 : decode b_M_checkGroups 65 = .ok (.iconst 3, 1) := by decide +kernel
theorem d_M_checkGroups_66 : decode b_M_checkGroups 66 = .ok (.putfield 238, 3) := by decide +kernel
theorem d_M_checkGroups_69 : decode b_M_checkGroups 69 = .ok (.iinc 3 1, 3) := by decide +kernel
theorem d_M_checkGroups_72 : decode b_M_checkGroups 72 = .ok (.goto (-60), 3) := by decide +kernel
theorem d_M_checkGroups_75 : decode b_M_checkGroups 75 = .ok (.iinc 2 1, 3) := by decide +kernel
theorem d_M_checkGroups_78 : decode b_M_checkGroups 78 = .ok (.goto (-76), 3) := by decide +kernel
theorem d_M_checkGroups_81 : decode b_M_checkGroups 81 = .ok (.return_, 1) := by decide +kernel
theorem d_M_bringAnswer_0 : decode b_M_bringAnswer 0 = .ok (.aload_n 0, 1) := by decide +kernel
theorem d_M_bringAnswer_1 : decode b_M_bringAnswer 1 = .ok (.getfield 489, 3) := by decide +kernel
theorem d_M_bringAnswer_4 : decode b_M_bringAnswer 4 = .ok (.aload_n 0, 1) := by decide +kernel
theorem d_M_bringAnswer_5 : decode b_M_bringAnswer 5 = .ok (.getfield 569, 3) := by decide +kernel
theorem d_M_bringAnswer_8 : decode b_M_bringAnswer 8 = .ok (.iadd, 1) := by decide +kernel
theorem d_M_bringAnswer_9 : decode b_M_bringAnswer 9 = .ok (.aload_n 0, 1) := by decide +kernel
theorem d_M_bringAnswer_10 : decode b_M_bringAnswer 10 = .ok (.getfield 553, 3) := by decide +kernel
theorem d_M_bringAnswer_13 : decode b_M_bringAnswer 13 = .ok (.if_icmp .ne 9, 3) := by decide +kernel
theorem d_M_bringAnswer_16 : decode b_M_bringAnswer 16 = .ok (.aload_n 0, 1) := by decide +kernel
theorem d_M_bringAnswer_17 : decode b_M_bringAnswer 17 = .ok (.iconst 4, 1) := by decide +kernel
theorem d_M_bringAnswer_18 : decode b_M_bringAnswer 18 = .ok (.putfield 238, 3) := by decide +kernel
theorem d_M_bringAnswer_21 : decode b_M_bringAnswer 21 = .ok (.return_, 1) := by decide +kernel
theorem d_M_bringAnswer_22 : decode b_M_bringAnswer 22 = .ok (.iconst 0, 1) := by decide +kernel
theorem d_M_bringAnswer_23 : decode b_M_bringAnswer 23 = .ok (.istore_n 3, 1) := by decide +kernel
theorem d_M_bringAnswer_24 : decode b_M_bringAnswer 24 = .ok (.iload_n 3, 1) := by decide +kernel
theorem d_M_bringAnswer_25 : decode b_M_bringAnswer 25 = .ok (.aload_n 0, 1) := by decide +kernel
theorem d_M_bringAnswer_26 : decode b_M_bringAnswer 26 = .ok (.getfield 87, 3) := by decide +kernel
theorem d_M_bringAnswer_29 : decode b_M_bringAnswer 29 = .ok (.iload_n 1, 1) := by decide +kernel
theorem d_M_bringAnswer_30 : decode b_M_bringAnswer 30 = .ok (.iaload, 1) := by decide +kernel
theorem d_M_bringAnswer_31 : decode b_M_bringAnswer 31 = .ok (.if_icmp .ge 46, 3) := by decide +kernel
theorem d_M_bringAnswer_34 : decode b_M_bringAnswer 34 = .ok (.aload_n 0, 1) := by decide +kernel
theorem d_M_bringAnswer_35 : decode b_M_bringAnswer 35 = .ok (.getfield 198, 3) := by decide +kernel
theorem d_M_bringAnswer_38 : decode b_M_bringAnswer 38 = .ok (.iconst 4, 1) := by decide +kernel
theorem d_M_bringAnswer_39 : decode b_M_bringAnswer 39 = .ok (.aload_n 0, 1) := by decide +kernel
theorem d_M_bringAnswer_40 : decode b_M_bringAnswer 40 = .ok (.getfield 569, 3) := by decide +kernel
theorem d_M_bringAnswer_43 : decode b_M_bringAnswer 43 = .ok (.imul, 1) := by decide +kernel
theorem d_M_bringAnswer_44 : decode b_M_bringAnswer 44 = .ok (.iload_n 3, 1) := by decide +kernel
theorem d_M_bringAnswer_45 : decode b_M_bringAnswer 45 = .ok (.iadd, 1) := by decide +kernel
theorem d_M_bringAnswer_46 : decode b_M_bringAnswer 46 = .ok (.iload_n 2, 1) := by decide +kernel
theorem d_M_bringAnswer_47 : decode b_M_bringAnswer 47 = .ok (.iconst (-1), 1) := by decide +kernel
theorem d_M_bringAnswer_48 : decode b_M_bringAnswer 48 = .ok (.if_icmp .ne 12, 3) := by decide +kernel
theorem d_M_bringAnswer_51 : decode b_M_bringAnswer 51 = .ok (.aload_n 0, 1) := by decide +kernel
theorem d_M_bringAnswer_52 : decode b_M_bringAnswer 52 = .ok (.iload_n 1, 1) := by decide +kernel
theorem d_M_bringAnswer_53 : decode b_M_bringAnswer 53 = .ok (.iload_n 3, 1) := by decide +kernel
theorem d_M_bringAnswer_54 : decode b_M_bringAnswer 54 = .ok (.invokevirtual 526, 3) := by decide +kernel
theorem d_M_bringAnswer_57 : decode b_M_bringAnswer 57 = .ok (.goto 13, 3) := by decide +kernel
theorem d_M_bringAnswer_60 : decode b_M_bringAnswer 60 = .ok (.aload_n 0, 1) := by decide +kernel
theorem d_M_bringAnswer_61 : decode b_M_bringAnswer 61 = .ok (.getfield 228, 3) := by decide +kernel
theorem d_M_bringAnswer_64 : decode b_M_bringAnswer 64 = .ok (.iconst 4, 1) := by decide +kernel
theorem d_M_bringAnswer_65 : decode b_M_bringAnswer 65 = .ok (.iload_n 2, 1) := by decide +kernel
theorem d_M_bringAnswer_66 : decode b_M_bringAnswer 66 = .ok (.imul, 1) := by decide +kernel
theorem d_M_bringAnswer_67 : decode b_M_bringAnswer 67 = .ok (.iload_n 3, 1) := by decide +kernel
theorem d_M_bringAnswer_68 : decode b_M_bringAnswer 68 = .ok (.iadd, 1) := by decide +kernel
theorem d_M_bringAnswer_69 : decode b_M_bringAnswer 69 = .ok (.laload, 1) := by decide +kernel
theorem d_M_bringAnswer_70 : decode b_M_bringAnswer 70 = .ok (.lastore, 1) := by decide +kernel
theorem d_M_bringAnswer_71 : decode b_M_bringAnswer 71 = .ok (.iinc 3 1, 3) := by decide +kernel
theorem d_M_bringAnswer_74 : decode b_M_bringAnswer 74 = .ok (.goto (-50), 3) := by decide +kernel
theorem d_M_bringAnswer_77 : decode b_M_bringAnswer 77 = .ok (.iconst 0, 1) := by decide +kernel
theorem d_M_bringAnswer_78 : decode b_M_bringAnswer 78 = .ok (.istore_n 3, 1) := by decide +kernel
theorem d_M_bringAnswer_79 : decode b_M_bringAnswer 79 = .ok (.iload_n 3, 1) := by decide +kernel
theorem d_M_bringAnswer_80 : decode b_M_bringAnswer 80 = .ok (.aload_n 0, 1) := by decide +kernel
theorem d_M_bringAnswer_81 : decode b_M_bringAnswer 81 = .ok (.getfield 392, 3) := by decide +kernel
theorem d_M_bringAnswer_84 : decode b_M_bringAnswer 84 = .ok (.if_icmp .ge 67, 3) := by decide +kernel
theorem d_M_bringAnswer_87 : decode b_M_bringAnswer 87 = .ok (.aload_n 0, 1) := by decide +kernel
theorem d_M_bringAnswer_88 : decode b_M_bringAnswer 88 = .ok (.getfield 225, 3) := by decide +kernel
theorem d_M_bringAnswer_91 : decode b_M_bringAnswer 91 = .ok (.aload_n 0, 1) := by decide +kernel
theorem d_M_bringAnswer_92 : decode b_M_bringAnswer 92 = .ok (.getfield 165, 3) := by decide +kernel
theorem d_M_bringAnswer_95 : decode b_M_bringAnswer 95 = .ok (.iload_n 3, 1) := by decide +kernel
theorem d_M_bringAnswer_96 : decode b_M_bringAnswer 96 = .ok (.iaload, 1) := by decide +kernel
theorem d_M_bringAnswer_97 : decode b_M_bringAnswer 97 = .ok (.iaload, 1) := by decide +kernel
theorem d_M_bringAnswer_98 : decode b_M_bringAnswer 98 = .ok (.istore 4, 2) := by decide +kernel
theorem d_M_bringAnswer_100 : decode b_M_bringAnswer 100 = .ok (.aload_n 0, 1) := by decide +kernel
theorem d_M_bringAnswer_101 : decode b_M_bringAnswer 101 = .ok (.getfield 201, 3) := by decide +kernel
theorem d_M_bringAnswer_104 : decode b_M_bringAnswer 104 = .ok (.iconst 2, 1) := by decide +kernel
theorem d_M_bringAnswer_105 : decode b_M_bringAnswer 105 = .ok (.aload_n 0, 1) := by decide +kernel
theorem d_M_bringAnswer_106 : decode b_M_bringAnswer 106 = .ok (.getfield 569, 3) := by decide +kernel
theorem d_M_bringAnswer_109 : decode b_M_bringAnswer 109 = .ok (.imul, 1) := by decide +kernel
theorem d_M_bringAnswer_110 : decode b_M_bringAnswer 110 = .ok (.iload_n 3, 1) := by decide +kernel
theorem d_M_bringAnswer_111 : decode b_M_bringAnswer 111 = .ok (.iadd, 1) := by decide +kernel
theorem d_M_bringAnswer_112 : decode b_M_bringAnswer 112 = .ok (.aload_n 0, 1) := by decide +kernel
theorem d_M_bringAnswer_113 : decode b_M_bringAnswer 113 = .ok (.getfield 168, 3) := by decide +kernel
theorem d_M_bringAnswer_116 : decode b_M_bringAnswer 116 = .ok (.iload_n 3, 1) := by decide +kernel
theorem d_M_bringAnswer_117 : decode b_M_bringAnswer 117 = .ok (.iaload, 1) := by decide +kernel
theorem d_M_bringAnswer_118 : decode b_M_bringAnswer 118 = .ok (.bipush 100, 2) := by decide +kernel
theorem d_M_bringAnswer_120 : decode b_M_bringAnswer 120 = .ok (.if_icmp .ne 12, 3) := by decide +kernel
theorem d_M_bringAnswer_123 : decode b_M_bringAnswer 123 = .ok (.iload 4, 2) := by decide +kernel
theorem d_M_bringAnswer_125 : decode b_M_bringAnswer 125 = .ok (.bipush 100, 2) := by decide +kernel
theorem d_M_bringAnswer_127 : decode b_M_bringAnswer 127 = .ok (.isub, 1) := by decide +kernel
theorem d_M_bringAnswer_128 : decode b_M_bringAnswer 128 = .ok (.i2l, 1) := by decide +kernel
theorem d_M_bringAnswer_129 : decode b_M_bringAnswer 129 = .ok (.goto 15, 3) := by decide +kernel
theorem d_M_bringAnswer_132 : decode b_M_bringAnswer 132 = .ok (.aload_n 0, 1) := by decide +kernel
theorem d_M_bringAnswer_133 : decode b_M_bringAnswer 133 = .ok (.iload 4, 2) := by decide +kernel
theorem d_M_bringAnswer_135 : decode b_M_bringAnswer 135 = .ok (.aload_n 0, 1) := by decide +kernel
theorem d_M_bringAnswer_136 : decode b_M_bringAnswer 136 = .ok (.getfield 168, 3) := by decide +kernel
theorem d_M_bringAnswer_139 : decode b_M_bringAnswer 139 = .ok (.iload_n 3, 1) := by decide +kernel
theorem d_M_bringAnswer_140 : decode b_M_bringAnswer 140 = .ok (.iaload, 1) := by decide +kernel
theorem d_M_bringAnswer_141 : decode b_M_bringAnswer 141 = .ok (.invokevirtual 481, 3) := by decide +kernel
theorem d_M_bringAnswer_144 : decode b_M_bringAnswer 144 = .ok (.lastore, 1) := by decide +kernel
theorem d_M_bringAnswer_145 : decode b_M_bringAnswer 145 = .ok (.iinc 3 1, 3) := by decide +kernel
theorem d_M_bringAnswer_148 : decode b_M_bringAnswer 148 = .ok (.goto (-69), 3) := by decide +kernel
theorem d_M_bringAnswer_151 : decode b_M_bringAnswer 151 = .ok (.aload_n 0, 1) := by decide +kernel
theorem d_M_bringAnswer_152 : decode b_M_bringAnswer 152 = .ok (.dup, 1) := by decide +kernel
theorem d_M_bringAnswer_153 : decode b_M_bringAnswer 153 = .ok (.getfield 569, 3) := by decide +kernel
theorem d_M_bringAnswer_156 : decode b_M_bringAnswer 156 = .ok (.iconst 1, 1) := by decide +kernel
theorem d_M_bringAnswer_157 : decode b_M_bringAnswer 157 = .ok (.iadd, 1) := by decide +kernel
theorem d_M_bringAnswer_158 : decode b_M_bringAnswer 158 = .ok (.putfield 569, 3) := by decide +kernel
theorem d_M_bringAnswer_161 : decode b_M_bringAnswer 161 = .ok (.return_, 1) := by decide +kernel
theorem d_M_parent_0 : decode b_M_parent 0 = .ok (.iconst (-1), 1) := by decide +kernel
theorem d_M_parent_1 : decode b_M_parent 1 = .ok (.istore_n 3, 1) := by decide +kernel
theorem d_M_parent_2 : decode b_M_parent 2 = .ok (.iconst 0, 1) := by decide +kernel
theorem d_M_parent_3 : decode b_M_parent 3 = .ok (.istore 4, 2) := by decide +kernel
theorem d_M_parent_5 : decode b_M_parent 5 = .ok (.iload 4, 2) := by decide +kernel
theorem d_M_parent_7 : decode b_M_parent 7 = .ok (.aload_n 0, 1) := by decide +kernel
theorem d_M_parent_8 : decode b_M_parent 8 = .ok (.getfield 93, 3) := by decide +kernel
theorem d_M_parent_11 : decode b_M_parent 11 = .ok (.iload_n 1, 1) := by decide +kernel
theorem d_M_parent_12 : decode b_M_parent 12 = .ok (.iaload, 1) := by decide +kernel
theorem d_M_parent_13 : decode b_M_parent 13 = .ok (.if_icmp .ge 41, 3) := by decide +kernel
theorem d_M_parent_16 : decode b_M_parent 16 = .ok (.aload_n 0, 1) := by decide +kernel
theorem d_M_parent_17 : decode b_M_parent 17 = .ok (.getfield 138, 3) := by decide +kernel
theorem d_M_parent_20 : decode b_M_parent 20 = .ok (.aload_n 0, 1) := by decide +kernel
theorem d_M_parent_21 : decode b_M_parent 21 = .ok (.getfield 90, 3) := by decide +kernel
theorem d_M_parent_24 : decode b_M_parent 24 = .ok (.iload_n 1, 1) := by decide +kernel
theorem d_M_parent_25 : decode b_M_parent 25 = .ok (.iaload, 1) := by decide +kernel
theorem d_M_parent_26 : decode b_M_parent 26 = .ok (.iload 4, 2) := by decide +kernel
theorem d_M_parent_28 : decode b_M_parent 28 = .ok (.iadd, 1) := by decide +kernel
theorem d_M_parent_29 : decode b_M_parent 29 = .ok (.iaload, 1) := by decide +kernel
theorem d_M_parent_30 : decode b_M_parent 30 = .ok (.bipush 10, 2) := by decide +kernel
theorem d_M_parent_32 : decode b_M_parent 32 = .ok (.iload_n 2, 1) := by decide +kernel
theorem d_M_parent_33 : decode b_M_parent 33 = .ok (.iadd, 1) := by decide +kernel
theorem d_M_parent_34 : decode b_M_parent 34 = .ok (.if_icmp .ne 14, 3) := by decide +kernel
theorem d_M_parent_37 : decode b_M_parent 37 = .ok (.aload_n 0, 1) := by decide +kernel
theorem d_M_parent_38 : decode b_M_parent 38 = .ok (.getfield 225, 3) := by decide +kernel
theorem d_M_parent_41 : decode b_M_parent 41 = .ok (.iload 4, 2) := by decide +kernel
theorem d_M_parent_43 : decode b_M_parent 43 = .ok (.iaload, 1) := by decide +kernel
theorem d_M_parent_44 : decode b_M_parent 44 = .ok (.bipush 100, 2) := by decide +kernel
theorem d_M_parent_46 : decode b_M_parent 46 = .ok (.isub, 1) := by decide +kernel
theorem d_M_parent_47 : decode b_M_parent 47 = .ok (.istore_n 3, 1) := by decide +kernel
theorem d_M_parent_48 : decode b_M_parent 48 = .ok (.iinc 4 1, 3) := by decide +kernel
theorem d_M_parent_51 : decode b_M_parent 51 = .ok (.goto (-46), 3) := by decide +kernel
theorem d_M_parent_54 : decode b_M_parent 54 = .ok (.iload_n 3, 1) := by decide +kernel
theorem d_M_parent_55 : decode b_M_parent 55 = .ok (.ireturn, 1) := by decide +kernel
theorem d_M_lengthen_0 : decode b_M_lengthen 0 = .ok (.aload_n 0, 1) := by decide +kernel
theorem d_M_lengthen_1 : decode b_M_lengthen 1 = .ok (.getfield 44, 3) := by decide +kernel
theorem d_M_lengthen_4 : decode b_M_lengthen 4 = .ok (.iload_n 2, 1) := by decide +kernel
theorem d_M_lengthen_5 : decode b_M_lengthen 5 = .ok (.iaload, 1) := by decide +kernel
theorem d_M_lengthen_6 : decode b_M_lengthen 6 = .ok (.ifCond .ne 14, 3) := by decide +kernel
theorem d_M_lengthen_9 : decode b_M_lengthen 9 = .ok (.aload_n 0, 1) := by decide +kernel
theorem d_M_lengthen_10 : decode b_M_lengthen 10 = .ok (.getfield 53, 3) := by decide +kernel
theorem d_M_lengthen_13 : decode b_M_lengthen 13 = .ok (.iload_n 2, 1) := by decide +kernel
theorem d_M_lengthen_14 : decode b_M_lengthen 14 = .ok (.iaload, 1) := by decide +kernel
theorem d_M_lengthen_15 : decode b_M_lengthen 15 = .ok (.iconst (-1), 1) := by decide +kernel
theorem d_M_lengthen_16 : decode b_M_lengthen 16 = .ok (.if_icmp .ne 4, 3) := by decide +kernel
theorem d_M_lengthen_19 : decode b_M_lengthen 19 = .ok (.return_, 1) := by decide +kernel
theorem d_M_lengthen_20 : decode b_M_lengthen 20 = .ok (.aload_n 0, 1) := by decide +kernel
theorem d_M_lengthen_21 : decode b_M_lengthen 21 = .ok (.iload_n 1, 1) := by decide +kernel
theorem d_M_lengthen_22 : decode b_M_lengthen 22 = .ok (.iload_n 2, 1) := by decide +kernel
theorem d_M_lengthen_23 : decode b_M_lengthen 23 = .ok (.invokevirtual 572, 3) := by decide +kernel
theorem d_M_lengthen_26 : decode b_M_lengthen 26 = .ok (.istore_n 3, 1) := by decide +kernel
theorem d_M_lengthen_27 : decode b_M_lengthen 27 = .ok (.aload_n 0, 1) := by decide +kernel
theorem d_M_lengthen_28 : decode b_M_lengthen 28 = .ok (.getfield 44, 3) := by decide +kernel
theorem d_M_lengthen_31 : decode b_M_lengthen 31 = .ok (.iload_n 2, 1) := by decide +kernel
theorem d_M_lengthen_32 : decode b_M_lengthen 32 = .ok (.iaload, 1) := by decide +kernel
theorem d_M_lengthen_33 : decode b_M_lengthen 33 = .ok (.ifCond .le 109, 3) := by decide +kernel
theorem d_M_lengthen_36 : decode b_M_lengthen 36 = .ok (.iload_n 3, 1) := by decide +kernel
theorem d_M_lengthen_37 : decode b_M_lengthen 37 = .ok (.iconst (-1), 1) := by decide +kernel
theorem d_M_lengthen_38 : decode b_M_lengthen 38 = .ok (.if_icmp .ne 7, 3) := by decide +kernel
theorem d_M_lengthen_41 : decode b_M_lengthen 41 = .ok (.iconst 0, 1) := by decide +kernel
theorem d_M_lengthen_42 : decode b_M_lengthen 42 = .ok (.goto 9, 3) := by decide +kernel
theorem d_M_lengthen_45 : decode b_M_lengthen 45 = .ok (.aload_n 0, 1) := by decide +kernel
theorem d_M_lengthen_46 : decode b_M_lengthen 46 = .ok (.getfield 186, 3) := by decide +kernel
theorem d_M_lengthen_49 : decode b_M_lengthen 49 = .ok (.iload_n 3, 1) := by decide +kernel
theorem d_M_lengthen_50 : decode b_M_lengthen 50 = .ok (.iaload, 1) := by decide +kernel
theorem d_M_lengthen_51 : decode b_M_lengthen 51 = .ok (.istore 4, 2) := by decide +kernel
theorem d_M_lengthen_53 : decode b_M_lengthen 53 = .ok (.iconst 0, 1) := by decide +kernel
theorem d_M_lengthen_54 : decode b_M_lengthen 54 = .ok (.istore 5, 2) := by decide +kernel
theorem d_M_lengthen_56 : decode b_M_lengthen 56 = .ok (.iload 5, 2) := by decide +kernel
theorem d_M_lengthen_58 : decode b_M_lengthen 58 = .ok (.iload 4, 2) := by decide +kernel
theorem d_M_lengthen_60 : decode b_M_lengthen 60 = .ok (.if_icmp .ge 36, 3) := by decide +kernel
theorem d_M_lengthen_63 : decode b_M_lengthen 63 = .ok (.aload_n 0, 1) := by decide +kernel
theorem d_M_lengthen_64 : decode b_M_lengthen 64 = .ok (.getfield 189, 3) := by decide +kernel
theorem d_M_lengthen_67 : decode b_M_lengthen 67 = .ok (.bipush 32, 2) := by decide +kernel
theorem d_M_lengthen_69 : decode b_M_lengthen 69 = .ok (.aload_n 0, 1) := by decide +kernel
theorem d_M_lengthen_70 : decode b_M_lengthen 70 = .ok (.getfield 489, 3) := by decide +kernel
theorem d_M_lengthen_73 : decode b_M_lengthen 73 = .ok (.imul, 1) := by decide +kernel
theorem d_M_lengthen_74 : decode b_M_lengthen 74 = .ok (.iload 5, 2) := by decide +kernel
theorem d_M_lengthen_76 : decode b_M_lengthen 76 = .ok (.iadd, 1) := by decide +kernel
theorem d_M_lengthen_77 : decode b_M_lengthen 77 = .ok (.aload_n 0, 1) := by decide +kernel
theorem d_M_lengthen_78 : decode b_M_lengthen 78 = .ok (.getfield 189, 3) := by decide +kernel
theorem d_M_lengthen_81 : decode b_M_lengthen 81 = .ok (.bipush 32, 2) := by decide +kernel
theorem d_M_lengthen_83 : decode b_M_lengthen 83 = .ok (.iload_n 3, 1) := by decide +kernel
theorem d_M_lengthen_84 : decode b_M_lengthen 84 = .ok (.imul, 1) := by decide +kernel
theorem d_M_lengthen_85 : decode b_M_lengthen 85 = .ok (.iload 5, 2) := by decide +kernel
theorem d_M_lengthen_87 : decode b_M_lengthen 87 = .ok (.iadd, 1) := by decide +kernel
theorem d_M_lengthen_88 : decode b_M_lengthen 88 = .ok (.laload, 1) := by decide +kernel
theorem d_M_lengthen_89 : decode b_M_lengthen 89 = .ok (.lastore, 1) := by decide +kernel
theorem d_M_lengthen_90 : decode b_M_lengthen 90 = .ok (.iinc 5 1, 3) := by decide +kernel
theorem d_M_lengthen_93 : decode b_M_lengthen 93 = .ok (.goto (-37), 3) := by decide +kernel
theorem d_M_lengthen_96 : decode b_M_lengthen 96 = .ok (.aload_n 0, 1) := by decide +kernel
theorem d_M_lengthen_97 : decode b_M_lengthen 97 = .ok (.getfield 189, 3) := by decide +kernel
theorem d_M_lengthen_100 : decode b_M_lengthen 100 = .ok (.bipush 32, 2) := by decide +kernel
theorem d_M_lengthen_102 : decode b_M_lengthen 102 = .ok (.aload_n 0, 1) := by decide +kernel
theorem d_M_lengthen_103 : decode b_M_lengthen 103 = .ok (.getfield 489, 3) := by decide +kernel
theorem d_M_lengthen_106 : decode b_M_lengthen 106 = .ok (.imul, 1) := by decide +kernel
theorem d_M_lengthen_107 : decode b_M_lengthen 107 = .ok (.iload 4, 2) := by decide +kernel
theorem d_M_lengthen_109 : decode b_M_lengthen 109 = .ok (.iadd, 1) := by decide +kernel
theorem d_M_lengthen_110 : decode b_M_lengthen 110 = .ok (.aload_n 0, 1) := by decide +kernel
theorem d_M_lengthen_111 : decode b_M_lengthen 111 = .ok (.getfield 183, 3) := by decide +kernel
theorem d_M_lengthen_114 : decode b_M_lengthen 114 = .ok (.iconst 4, 1) := by decide +kernel
theorem d_M_lengthen_115 : decode b_M_lengthen 115 = .ok (.aload_n 0, 1) := by decide +kernel
theorem d_M_lengthen_116 : decode b_M_lengthen 116 = .ok (.getfield 489, 3) := by decide +kernel
theorem d_M_lengthen_119 : decode b_M_lengthen 119 = .ok (.imul, 1) := by decide +kernel
theorem d_M_lengthen_120 : decode b_M_lengthen 120 = .ok (.aload_n 0, 1) := by decide +kernel
theorem d_M_lengthen_121 : decode b_M_lengthen 121 = .ok (.getfield 59, 3) := by decide +kernel
theorem d_M_lengthen_124 : decode b_M_lengthen 124 = .ok (.iload_n 2, 1) := by decide +kernel
theorem d_M_lengthen_125 : decode b_M_lengthen 125 = .ok (.iaload, 1) := by decide +kernel
theorem d_M_lengthen_126 : decode b_M_lengthen 126 = .ok (.iadd, 1) := by decide +kernel
theorem d_M_lengthen_127 : decode b_M_lengthen 127 = .ok (.laload, 1) := by decide +kernel
theorem d_M_lengthen_128 : decode b_M_lengthen 128 = .ok (.lastore, 1) := by decide +kernel
theorem d_M_lengthen_129 : decode b_M_lengthen 129 = .ok (.aload_n 0, 1) := by decide +kernel
theorem d_M_lengthen_130 : decode b_M_lengthen 130 = .ok (.getfield 186, 3) := by decide +kernel
theorem d_M_lengthen_133 : decode b_M_lengthen 133 = .ok (.aload_n 0, 1) := by decide +kernel
theorem d_M_lengthen_134 : decode b_M_lengthen 134 = .ok (.getfield 489, 3) := by decide +kernel
theorem d_M_lengthen_137 : decode b_M_lengthen 137 = .ok (.iload 4, 2) := by decide +kernel
theorem d_M_lengthen_139 : decode b_M_lengthen 139 = .ok (.iconst 1, 1) := by decide +kernel
theorem d_M_lengthen_140 : decode b_M_lengthen 140 = .ok (.iadd, 1) := by decide +kernel
theorem d_M_lengthen_141 : decode b_M_lengthen 141 = .ok (.iastore, 1) := by decide +kernel
theorem d_M_lengthen_142 : decode b_M_lengthen 142 = .ok (.aload_n 0, 1) := by decide +kernel
theorem d_M_lengthen_143 : decode b_M_lengthen 143 = .ok (.getfield 53, 3) := by decide +kernel
theorem d_M_lengthen_146 : decode b_M_lengthen 146 = .ok (.iload_n 2, 1) := by decide +kernel
theorem d_M_lengthen_147 : decode b_M_lengthen 147 = .ok (.iaload, 1) := by decide +kernel
theorem d_M_lengthen_148 : decode b_M_lengthen 148 = .ok (.iconst (-1), 1) := by decide +kernel
theorem d_M_lengthen_149 : decode b_M_lengthen 149 = .ok (.if_icmp .ne 4, 3) := by decide +kernel
theorem d_M_lengthen_152 : decode b_M_lengthen 152 = .ok (.return_, 1) := by decide +kernel
theorem d_M_lengthen_153 : decode b_M_lengthen 153 = .ok (.iload_n 3, 1) := by decide +kernel
theorem d_M_lengthen_154 : decode b_M_lengthen 154 = .ok (.iconst (-1), 1) := by decide +kernel
theorem d_M_lengthen_155 : decode b_M_lengthen 155 = .ok (.if_icmp .ne 7, 3) := by decide +kernel
theorem d_M_lengthen_158 : decode b_M_lengthen 158 = .ok (.iconst 0, 1) := by decide +kernel
theorem d_M_lengthen_159 : decode b_M_lengthen 159 = .ok (.goto 9, 3) := by decide +kernel
theorem d_M_lengthen_162 : decode b_M_lengthen 162 = .ok (.aload_n 0, 1) := by decide +kernel
theorem d_M_lengthen_163 : decode b_M_lengthen 163 = .ok (.getfield 192, 3) := by decide +kernel
theorem d_M_lengthen_166 : decode b_M_lengthen 166 = .ok (.iload_n 3, 1) := by decide +kernel
theorem d_M_lengthen_167 : decode b_M_lengthen 167 = .ok (.iaload, 1) := by decide +kernel
theorem d_M_lengthen_168 : decode b_M_lengthen 168 = .ok (.istore 4, 2) := by decide +kernel
theorem d_M_lengthen_170 : decode b_M_lengthen 170 = .ok (.aload_n 0, 1) := by decide +kernel
theorem d_M_lengthen_171 : decode b_M_lengthen 171 = .ok (.getfield 183, 3) := by decide +kernel
theorem d_M_lengthen_174 : decode b_M_lengthen 174 = .ok (.iconst 4, 1) := by decide +kernel
theorem d_M_lengthen_175 : decode b_M_lengthen 175 = .ok (.aload_n 0, 1) := by decide +kernel
theorem d_M_lengthen_176 : decode b_M_lengthen 176 = .ok (.getfield 489, 3) := by decide +kernel
theorem d_M_lengthen_179 : decode b_M_lengthen 179 = .ok (.imul, 1) := by decide +kernel
theorem d_M_lengthen_180 : decode b_M_lengthen 180 = .ok (.aload_n 0, 1) := by decide +kernel
theorem d_M_lengthen_181 : decode b_M_lengthen 181 = .ok (.getfield 62, 3) := by decide +kernel
theorem d_M_lengthen_184 : decode b_M_lengthen 184 = .ok (.iload_n 2, 1) := by decide +kernel
theorem d_M_lengthen_185 : decode b_M_lengthen 185 = .ok (.iaload, 1) := by decide +kernel
theorem d_M_lengthen_186 : decode b_M_lengthen 186 = .ok (.iadd, 1) := by decide +kernel
theorem d_M_lengthen_187 : decode b_M_lengthen 187 = .ok (.laload, 1) := by decide +kernel
theorem d_M_lengthen_188 : decode b_M_lengthen 188 = .ok (.lstore 5, 2) := by decide +kernel
theorem d_M_lengthen_190 : decode b_M_lengthen 190 = .ok (.lconst 0, 1) := by decide +kernel
theorem d_M_lengthen_191 : decode b_M_lengthen 191 = .ok (.lstore 7, 2) := by decide +kernel
theorem d_M_lengthen_193 : decode b_M_lengthen 193 = .ok (.iconst 0, 1) := by decide +kernel
theorem d_M_lengthen_194 : decode b_M_lengthen 194 = .ok (.istore 9, 2) := by decide +kernel
theorem d_M_lengthen_196 : decode b_M_lengthen 196 = .ok (.iload 9, 2) := by decide +kernel
theorem d_M_lengthen_198 : decode b_M_lengthen 198 = .ok (.iload 4, 2) := by decide +kernel
theorem d_M_lengthen_200 : decode b_M_lengthen 200 = .ok (.if_icmp .ge 66, 3) := by decide +kernel
theorem d_M_lengthen_203 : decode b_M_lengthen 203 = .ok (.aload_n 0, 1) := by decide +kernel
theorem d_M_lengthen_204 : decode b_M_lengthen 204 = .ok (.getfield 195, 3) := by decide +kernel
theorem d_M_lengthen_207 : decode b_M_lengthen 207 = .ok (.bipush 32, 2) := by decide +kernel
theorem d_M_lengthen_209 : decode b_M_lengthen 209 = .ok (.aload_n 0, 1) := by decide +kernel
theorem d_M_lengthen_210 : decode b_M_lengthen 210 = .ok (.getfield 489, 3) := by decide +kernel
theorem d_M_lengthen_213 : decode b_M_lengthen 213 = .ok (.imul, 1) := by decide +kernel
theorem d_M_lengthen_214 : decode b_M_lengthen 214 = .ok (.iload 9, 2) := by decide +kernel
theorem d_M_lengthen_216 : decode b_M_lengthen 216 = .ok (.iadd, 1) := by decide +kernel
theorem d_M_lengthen_217 : decode b_M_lengthen 217 = .ok (.aload_n 0, 1) := by decide +kernel
theorem d_M_lengthen_218 : decode b_M_lengthen 218 = .ok (.getfield 195, 3) := by decide +kernel
theorem d_M_lengthen_221 : decode b_M_lengthen 221 = .ok (.bipush 32, 2) := by decide +kernel
theorem d_M_lengthen_223 : decode b_M_lengthen 223 = .ok (.iload_n 3, 1) := by decide +kernel
theorem d_M_lengthen_224 : decode b_M_lengthen 224 = .ok (.imul, 1) := by decide +kernel
theorem d_M_lengthen_225 : decode b_M_lengthen 225 = .ok (.iload 9, 2) := by decide +kernel
theorem d_M_lengthen_227 : decode b_M_lengthen 227 = .ok (.iadd, 1) := by decide +kernel
theorem d_M_lengthen_228 : decode b_M_lengthen 228 = .ok (.laload, 1) := by decide +kernel
theorem d_M_lengthen_229 : decode b_M_lengthen 229 = .ok (.lastore, 1) := by decide +kernel
theorem d_M_lengthen_230 : decode b_M_lengthen 230 = .ok (.lload 5, 2) := by decide +kernel
theorem d_M_lengthen_232 : decode b_M_lengthen 232 = .ok (.ldc2_w 253, 3) := by decide +kernel
theorem d_M_lengthen_235 : decode b_M_lengthen 235 = .ok (.lcmp, 1) := by decide +kernel
theorem d_M_lengthen_236 : decode b_M_lengthen 236 = .ok (.ifCond .eq 24, 3) := by decide +kernel
theorem d_M_lengthen_239 : decode b_M_lengthen 239 = .ok (.aload_n 0, 1) := by decide +kernel
theorem d_M_lengthen_240 : decode b_M_lengthen 240 = .ok (.getfield 195, 3) := by decide +kernel
theorem d_M_lengthen_243 : decode b_M_lengthen 243 = .ok (.bipush 32, 2) := by decide +kernel
theorem d_M_lengthen_245 : decode b_M_lengthen 245 = .ok (.iload_n 3, 1) := by decide +kernel
theorem d_M_lengthen_246 : decode b_M_lengthen 246 = .ok (.imul, 1) := by decide +kernel
theorem d_M_lengthen_247 : decode b_M_lengthen 247 = .ok (.iload 9, 2) := by decide +kernel
theorem d_M_lengthen_249 : decode b_M_lengthen 249 = .ok (.iadd, 1) := by decide +kernel
theorem d_M_lengthen_250 : decode b_M_lengthen 250 = .ok (.laload, 1) := by decide +kernel
theorem d_M_lengthen_251 : decode b_M_lengthen 251 = .ok (.lload 5, 2) := by decide +kernel
theorem d_M_lengthen_253 : decode b_M_lengthen 253 = .ok (.lcmp, 1) := by decide +kernel
theorem d_M_lengthen_254 : decode b_M_lengthen 254 = .ok (.ifCond .ne 6, 3) := by decide +kernel
theorem d_M_lengthen_257 : decode b_M_lengthen 257 = .ok (.lconst 1, 1) := by decide +kernel
theorem d_M_lengthen_258 : decode b_M_lengthen 258 = .ok (.lstore 7, 2) := by decide +kernel
theorem d_M_lengthen_260 : decode b_M_lengthen 260 = .ok (.iinc 9 1, 3) := by decide +kernel
theorem d_M_lengthen_263 : decode b_M_lengthen 263 = .ok (.goto (-67), 3) := by decide +kernel
theorem d_M_lengthen_266 : decode b_M_lengthen 266 = .ok (.aload_n 0, 1) := by decide +kernel
theorem d_M_lengthen_267 : decode b_M_lengthen 267 = .ok (.getfield 195, 3) := by decide +kernel
theorem d_M_lengthen_270 : decode b_M_lengthen 270 = .ok (.bipush 32, 2) := by decide +kernel
theorem d_M_lengthen_272 : decode b_M_lengthen 272 = .ok (.aload_n 0, 1) := by decide +kernel
theorem d_M_lengthen_273 : decode b_M_lengthen 273 = .ok (.getfield 489, 3) := by decide +kernel
theorem d_M_lengthen_276 : decode b_M_lengthen 276 = .ok (.imul, 1) := by decide +kernel
theorem d_M_lengthen_277 : decode b_M_lengthen 277 = .ok (.iload 4, 2) := by decide +kernel
theorem d_M_lengthen_279 : decode b_M_lengthen 279 = .ok (.iadd, 1) := by decide +kernel
theorem d_M_lengthen_280 : decode b_M_lengthen 280 = .ok (.lload 5, 2) := by decide +kernel
theorem d_M_lengthen_282 : decode b_M_lengthen 282 = .ok (.lastore, 1) := by decide +kernel
theorem d_M_lengthen_283 : decode b_M_lengthen 283 = .ok (.aload_n 0, 1) := by decide +kernel
theorem d_M_lengthen_284 : decode b_M_lengthen 284 = .ok (.getfield 192, 3) := by decide +kernel
theorem d_M_lengthen_287 : decode b_M_lengthen 287 = .ok (.aload_n 0, 1) := by decide +kernel
theorem d_M_lengthen_288 : decode b_M_lengthen 288 = .ok (.getfield 489, 3) := by decide +kernel
theorem d_M_lengthen_291 : decode b_M_lengthen 291 = .ok (.iload 4, 2) := by decide +kernel
theorem d_M_lengthen_293 : decode b_M_lengthen 293 = .ok (.iconst 1, 1) := by decide +kernel
theorem d_M_lengthen_294 : decode b_M_lengthen 294 = .ok (.iadd, 1) := by decide +kernel
theorem d_M_lengthen_295 : decode b_M_lengthen 295 = .ok (.iastore, 1) := by decide +kernel
theorem d_M_lengthen_296 : decode b_M_lengthen 296 = .ok (.aload_n 0, 1) := by decide +kernel
theorem d_M_lengthen_297 : decode b_M_lengthen 297 = .ok (.getfield 183, 3) := by decide +kernel
theorem d_M_lengthen_300 : decode b_M_lengthen 300 = .ok (.iconst 4, 1) := by decide +kernel
theorem d_M_lengthen_301 : decode b_M_lengthen 301 = .ok (.aload_n 0, 1) := by decide +kernel
theorem d_M_lengthen_302 : decode b_M_lengthen 302 = .ok (.getfield 489, 3) := by decide +kernel
theorem d_M_lengthen_305 : decode b_M_lengthen 305 = .ok (.imul, 1) := by decide +kernel
theorem d_M_lengthen_306 : decode b_M_lengthen 306 = .ok (.aload_n 0, 1) := by decide +kernel
theorem d_M_lengthen_307 : decode b_M_lengthen 307 = .ok (.getfield 38, 3) := by decide +kernel
theorem d_M_lengthen_310 : decode b_M_lengthen 310 = .ok (.iload_n 2, 1) := by decide +kernel
theorem d_M_lengthen_311 : decode b_M_lengthen 311 = .ok (.iaload, 1) := by decide +kernel
theorem d_M_lengthen_312 : decode b_M_lengthen 312 = .ok (.iadd, 1) := by decide +kernel
theorem d_M_lengthen_313 : decode b_M_lengthen 313 = .ok (.lload 7, 2) := by decide +kernel
theorem d_M_lengthen_315 : decode b_M_lengthen 315 = .ok (.lastore, 1) := by decide +kernel
theorem d_M_lengthen_316 : decode b_M_lengthen 316 = .ok (.return_, 1) := by decide +kernel
theorem d_M_isAlike_0 : decode b_M_isAlike 0 = .ok (.aload_n 0, 1) := by decide +kernel
theorem d_M_isAlike_1 : decode b_M_isAlike 1 = .ok (.getfield 38, 3) := by decide +kernel
theorem d_M_isAlike_4 : decode b_M_isAlike 4 = .ok (.iload_n 1, 1) := by decide +kernel
theorem d_M_isAlike_5 : decode b_M_isAlike 5 = .ok (.iaload, 1) := by decide +kernel
theorem d_M_isAlike_6 : decode b_M_isAlike 6 = .ok (.aload_n 0, 1) := by decide +kernel
theorem d_M_isAlike_7 : decode b_M_isAlike 7 = .ok (.getfield 53, 3) := by decide +kernel
theorem d_M_isAlike_10 : decode b_M_isAlike 10 = .ok (.iload_n 1, 1) := by decide +kernel
theorem d_M_isAlike_11 : decode b_M_isAlike 11 = .ok (.iaload, 1) := by decide +kernel
theorem d_M_isAlike_12 : decode b_M_isAlike 12 = .ok (.iconst (-1), 1) := by decide +kernel
theorem d_M_isAlike_13 : decode b_M_isAlike 13 = .ok (.if_icmp .eq 7, 3) := by decide +kernel
theorem d_M_isAlike_16 : decode b_M_isAlike 16 = .ok (.iconst 1, 1) := by decide +kernel
theorem d_M_isAlike_17 : decode b_M_isAlike 17 = .ok (.goto 4, 3) := by decide +kernel
theorem d_M_isAlike_20 : decode b_M_isAlike 20 = .ok (.iconst 0, 1) := by decide +kernel
theorem d_M_isAlike_21 : decode b_M_isAlike 21 = .ok (.iadd, 1) := by decide +kernel
theorem d_M_isAlike_22 : decode b_M_isAlike 22 = .ok (.istore_n 3, 1) := by decide +kernel
theorem d_M_isAlike_23 : decode b_M_isAlike 23 = .ok (.aload_n 0, 1) := by decide +kernel
theorem d_M_isAlike_24 : decode b_M_isAlike 24 = .ok (.getfield 186, 3) := by decide +kernel
theorem d_M_isAlike_27 : decode b_M_isAlike 27 = .ok (.iload_n 2, 1) := by decide +kernel
theorem d_M_isAlike_28 : decode b_M_isAlike 28 = .ok (.iaload, 1) := by decide +kernel
theorem d_M_isAlike_29 : decode b_M_isAlike 29 = .ok (.aload_n 0, 1) := by decide +kernel
theorem d_M_isAlike_30 : decode b_M_isAlike 30 = .ok (.getfield 186, 3) := by decide +kernel
theorem d_M_isAlike_33 : decode b_M_isAlike 33 = .ok (.aload_n 0, 1) := by decide +kernel
theorem d_M_isAlike_34 : decode b_M_isAlike 34 = .ok (.getfield 489, 3) := by decide +kernel
theorem d_M_isAlike_37 : decode b_M_isAlike 37 = .ok (.iaload, 1) := by decide +kernel
theorem d_M_isAlike_38 : decode b_M_isAlike 38 = .ok (.if_icmp .ne 25, 3) := by decide +kernel
theorem d_M_isAlike_41 : decode b_M_isAlike 41 = .ok (.aload_n 0, 1) := by decide +kernel
theorem d_M_isAlike_42 : decode b_M_isAlike 42 = .ok (.getfield 192, 3) := by decide +kernel
theorem d_M_isAlike_45 : decode b_M_isAlike 45 = .ok (.iload_n 2, 1) := by decide +kernel
theorem d_M_isAlike_46 : decode b_M_isAlike 46 = .ok (.iaload, 1) := by decide +kernel
theorem d_M_isAlike_47 : decode b_M_isAlike 47 = .ok (.aload_n 0, 1) := by decide +kernel
theorem d_M_isAlike_48 : decode b_M_isAlike 48 = .ok (.getfield 192, 3) := by decide +kernel
theorem d_M_isAlike_51 : decode b_M_isAlike 51 = .ok (.aload_n 0, 1) := by decide +kernel
theorem d_M_isAlike_52 : decode b_M_isAlike 52 = .ok (.getfield 489, 3) := by decide +kernel
theorem d_M_isAlike_55 : decode b_M_isAlike 55 = .ok (.iaload, 1) := by decide +kernel
theorem d_M_isAlike_56 : decode b_M_isAlike 56 = .ok (.if_icmp .ne 7, 3) := by decide +kernel
theorem d_M_isAlike_59 : decode b_M_isAlike 59 = .ok (.iconst 1, 1) := by decide +kernel
theorem d_M_isAlike_60 : decode b_M_isAlike 60 = .ok (.goto 4, 3) := by decide +kernel
theorem d_M_isAlike_63 : decode b_M_isAlike 63 = .ok (.iconst 0, 1) := by decide +kernel
theorem d_M_isAlike_64 : decode b_M_isAlike 64 = .ok (.istore 4, 2) := by decide +kernel
theorem d_M_isAlike_66 : decode b_M_isAlike 66 = .ok (.iconst 0, 1) := by decide +kernel
theorem d_M_isAlike_67 : decode b_M_isAlike 67 = .ok (.istore 5, 2) := by decide +kernel
theorem d_M_isAlike_69 : decode b_M_isAlike 69 = .ok (.iload 5, 2) := by decide +kernel
theorem d_M_isAlike_71 : decode b_M_isAlike 71 = .ok (.iload_n 3, 1) := by decide +kernel
theorem d_M_isAlike_72 : decode b_M_isAlike 72 = .ok (.if_icmp .ge 50, 3) := by decide +kernel
theorem d_M_isAlike_75 : decode b_M_isAlike 75 = .ok (.iload 4, 2) := by decide +kernel
theorem d_M_isAlike_77 : decode b_M_isAlike 77 = .ok (.ifCond .eq 45, 3) := by decide +kernel
theorem d_M_isAlike_80 : decode b_M_isAlike 80 = .ok (.aload_n 0, 1) := by decide +kernel
theorem d_M_isAlike_81 : decode b_M_isAlike 81 = .ok (.getfield 183, 3) := by decide +kernel
theorem d_M_isAlike_84 : decode b_M_isAlike 84 = .ok (.iconst 4, 1) := by decide +kernel
theorem d_M_isAlike_85 : decode b_M_isAlike 85 = .ok (.iload_n 2, 1) := by decide +kernel
theorem d_M_isAlike_86 : decode b_M_isAlike 86 = .ok (.imul, 1) := by decide +kernel
theorem d_M_isAlike_87 : decode b_M_isAlike 87 = .ok (.iload 5, 2) := by decide +kernel
theorem d_M_isAlike_89 : decode b_M_isAlike 89 = .ok (.iadd, 1) := by decide +kernel
theorem d_M_isAlike_90 : decode b_M_isAlike 90 = .ok (.laload, 1) := by decide +kernel
theorem d_M_isAlike_91 : decode b_M_isAlike 91 = .ok (.aload_n 0, 1) := by decide +kernel
theorem d_M_isAlike_92 : decode b_M_isAlike 92 = .ok (.getfield 183, 3) := by decide +kernel
theorem d_M_isAlike_95 : decode b_M_isAlike 95 = .ok (.iconst 4, 1) := by decide +kernel
theorem d_M_isAlike_96 : decode b_M_isAlike 96 = .ok (.aload_n 0, 1) := by decide +kernel
theorem d_M_isAlike_97 : decode b_M_isAlike 97 = .ok (.getfield 489, 3) := by decide +kernel
theorem d_M_isAlike_100 : decode b_M_isAlike 100 = .ok (.imul, 1) := by decide +kernel
theorem d_M_isAlike_101 : decode b_M_isAlike 101 = .ok (.iload 5, 2) := by decide +kernel
theorem d_M_isAlike_103 : decode b_M_isAlike 103 = .ok (.iadd, 1) := by decide +kernel
theorem d_M_isAlike_104 : decode b_M_isAlike 104 = .ok (.laload, 1) := by decide +kernel
theorem d_M_isAlike_105 : decode b_M_isAlike 105 = .ok (.lcmp, 1) := by decide +kernel
theorem d_M_isAlike_106 : decode b_M_isAlike 106 = .ok (.ifCond .ne 7, 3) := by decide +kernel
theorem d_M_isAlike_109 : decode b_M_isAlike 109 = .ok (.iconst 1, 1) := by decide +kernel
theorem d_M_isAlike_110 : decode b_M_isAlike 110 = .ok (.goto 4, 3) := by decide +kernel
theorem d_M_isAlike_113 : decode b_M_isAlike 113 = .ok (.iconst 0, 1) := by decide +kernel
theorem d_M_isAlike_114 : decode b_M_isAlike 114 = .ok (.istore 4, 2) := by decide +kernel
theorem d_M_isAlike_116 : decode b_M_isAlike 116 = .ok (.iinc 5 1, 3) := by decide +kernel
theorem d_M_isAlike_119 : decode b_M_isAlike 119 = .ok (.goto (-50), 3) := by decide +kernel
theorem d_M_isAlike_122 : decode b_M_isAlike 122 = .ok (.aload_n 0, 1) := by decide +kernel
theorem d_M_isAlike_123 : decode b_M_isAlike 123 = .ok (.getfield 44, 3) := by decide +kernel
theorem d_M_isAlike_126 : decode b_M_isAlike 126 = .ok (.iload_n 1, 1) := by decide +kernel
theorem d_M_isAlike_127 : decode b_M_isAlike 127 = .ok (.iaload, 1) := by decide +kernel
theorem d_M_isAlike_128 : decode b_M_isAlike 128 = .ok (.iconst 2, 1) := by decide +kernel
theorem d_M_isAlike_129 : decode b_M_isAlike 129 = .ok (.if_icmp .ne 17, 3) := by decide +kernel
theorem d_M_isAlike_132 : decode b_M_isAlike 132 = .ok (.aload_n 0, 1) := by decide +kernel
theorem d_M_isAlike_133 : decode b_M_isAlike 133 = .ok (.getfield 186, 3) := by decide +kernel
theorem d_M_isAlike_136 : decode b_M_isAlike 136 = .ok (.aload_n 0, 1) := by decide +kernel
theorem d_M_isAlike_137 : decode b_M_isAlike 137 = .ok (.getfield 489, 3) := by decide +kernel
theorem d_M_isAlike_140 : decode b_M_isAlike 140 = .ok (.iaload, 1) := by decide +kernel
theorem d_M_isAlike_141 : decode b_M_isAlike 141 = .ok (.iconst 1, 1) := by decide +kernel
theorem d_M_isAlike_142 : decode b_M_isAlike 142 = .ok (.isub, 1) := by decide +kernel
theorem d_M_isAlike_143 : decode b_M_isAlike 143 = .ok (.goto 4, 3) := by decide +kernel
theorem d_M_isAlike_146 : decode b_M_isAlike 146 = .ok (.iconst 0, 1) := by decide +kernel
theorem d_M_isAlike_147 : decode b_M_isAlike 147 = .ok (.istore 5, 2) := by decide +kernel
theorem d_M_isAlike_149 : decode b_M_isAlike 149 = .ok (.iload 5, 2) := by decide +kernel
theorem d_M_isAlike_151 : decode b_M_isAlike 151 = .ok (.istore 6, 2) := by decide +kernel
theorem d_M_isAlike_153 : decode b_M_isAlike 153 = .ok (.iload 6, 2) := by decide +kernel
theorem d_M_isAlike_155 : decode b_M_isAlike 155 = .ok (.aload_n 0, 1) := by decide +kernel
theorem d_M_isAlike_156 : decode b_M_isAlike 156 = .ok (.getfield 186, 3) := by decide +kernel
theorem d_M_isAlike_159 : decode b_M_isAlike 159 = .ok (.aload_n 0, 1) := by decide +kernel
theorem d_M_isAlike_160 : decode b_M_isAlike 160 = .ok (.getfield 489, 3) := by decide +kernel
theorem d_M_isAlike_163 : decode b_M_isAlike 163 = .ok (.iaload, 1) := by decide +kernel
theorem d_M_isAlike_164 : decode b_M_isAlike 164 = .ok (.if_icmp .ge 52, 3) := by decide +kernel
theorem d_M_isAlike_167 : decode b_M_isAlike 167 = .ok (.iload 4, 2) := by decide +kernel
theorem d_M_isAlike_169 : decode b_M_isAlike 169 = .ok (.ifCond .eq 47, 3) := by decide +kernel
theorem d_M_isAlike_172 : decode b_M_isAlike 172 = .ok (.aload_n 0, 1) := by decide +kernel
theorem d_M_isAlike_173 : decode b_M_isAlike 173 = .ok (.getfield 189, 3) := by decide +kernel
theorem d_M_isAlike_176 : decode b_M_isAlike 176 = .ok (.bipush 32, 2) := by decide +kernel
theorem d_M_isAlike_178 : decode b_M_isAlike 178 = .ok (.iload_n 2, 1) := by decide +kernel
theorem d_M_isAlike_179 : decode b_M_isAlike 179 = .ok (.imul, 1) := by decide +kernel
theorem d_M_isAlike_180 : decode b_M_isAlike 180 = .ok (.iload 6, 2) := by decide +kernel
theorem d_M_isAlike_182 : decode b_M_isAlike 182 = .ok (.iadd, 1) := by decide +kernel
theorem d_M_isAlike_183 : decode b_M_isAlike 183 = .ok (.laload, 1) := by decide +kernel
theorem d_M_isAlike_184 : decode b_M_isAlike 184 = .ok (.aload_n 0, 1) := by decide +kernel
theorem d_M_isAlike_185 : decode b_M_isAlike 185 = .ok (.getfield 189, 3) := by decide +kernel
theorem d_M_isAlike_188 : decode b_M_isAlike 188 = .ok (.bipush 32, 2) := by decide +kernel
theorem d_M_isAlike_190 : decode b_M_isAlike 190 = .ok (.aload_n 0, 1) := by decide +kernel
theorem d_M_isAlike_191 : decode b_M_isAlike 191 = .ok (.getfield 489, 3) := by decide +kernel
theorem d_M_isAlike_194 : decode b_M_isAlike 194 = .ok (.imul, 1) := by decide +kernel
theorem d_M_isAlike_195 : decode b_M_isAlike 195 = .ok (.iload 6, 2) := by decide +kernel
theorem d_M_isAlike_197 : decode b_M_isAlike 197 = .ok (.iadd, 1) := by decide +kernel
theorem d_M_isAlike_198 : decode b_M_isAlike 198 = .ok (.laload, 1) := by decide +kernel
theorem d_M_isAlike_199 : decode b_M_isAlike 199 = .ok (.lcmp, 1) := by decide +kernel
theorem d_M_isAlike_200 : decode b_M_isAlike 200 = .ok (.ifCond .ne 7, 3) := by decide +kernel
theorem d_M_isAlike_203 : decode b_M_isAlike 203 = .ok (.iconst 1, 1) := by decide +kernel
theorem d_M_isAlike_204 : decode b_M_isAlike 204 = .ok (.goto 4, 3) := by decide +kernel
theorem d_M_isAlike_207 : decode b_M_isAlike 207 = .ok (.iconst 0, 1) := by decide +kernel
theorem d_M_isAlike_208 : decode b_M_isAlike 208 = .ok (.istore 4, 2) := by decide +kernel
theorem d_M_isAlike_210 : decode b_M_isAlike 210 = .ok (.iinc 6 1, 3) := by decide +kernel
theorem d_M_isAlike_213 : decode b_M_isAlike 213 = .ok (.goto (-60), 3) := by decide +kernel
theorem d_M_isAlike_216 : decode b_M_isAlike 216 = .ok (.iconst 0, 1) := by decide +kernel
theorem d_M_isAlike_217 : decode b_M_isAlike 217 = .ok (.istore 6, 2) := by decide +kernel
theorem d_M_isAlike_219 : decode b_M_isAlike 219 = .ok (.iload 6, 2) := by decide +kernel
theorem d_M_isAlike_221 : decode b_M_isAlike 221 = .ok (.aload_n 0, 1) := by decide +kernel
theorem d_M_isAlike_222 : decode b_M_isAlike 222 = .ok (.getfield 192, 3) := by decide +kernel
theorem d_M_isAlike_225 : decode b_M_isAlike 225 = .ok (.aload_n 0, 1) := by decide +kernel
theorem d_M_isAlike_226 : decode b_M_isAlike 226 = .ok (.getfield 489, 3) := by decide +kernel
theorem d_M_isAlike_229 : decode b_M_isAlike 229 = .ok (.iaload, 1) := by decide +kernel
theorem d_M_isAlike_230 : decode b_M_isAlike 230 = .ok (.if_icmp .ge 52, 3) := by decide +kernel
theorem d_M_isAlike_233 : decode b_M_isAlike 233 = .ok (.iload 4, 2) := by decide +kernel
theorem d_M_isAlike_235 : decode b_M_isAlike 235 = .ok (.ifCond .eq 47, 3) := by decide +kernel
theorem d_M_isAlike_238 : decode b_M_isAlike 238 = .ok (.aload_n 0, 1) := by decide +kernel
theorem d_M_isAlike_239 : decode b_M_isAlike 239 = .ok (.getfield 195, 3) := by decide +kernel
theorem d_M_isAlike_242 : decode b_M_isAlike 242 = .ok (.bipush 32, 2) := by decide +kernel
theorem d_M_isAlike_244 : decode b_M_isAlike 244 = .ok (.iload_n 2, 1) := by decide +kernel
theorem d_M_isAlike_245 : decode b_M_isAlike 245 = .ok (.imul, 1) := by decide +kernel
theorem d_M_isAlike_246 : decode b_M_isAlike 246 = .ok (.iload 6, 2) := by decide +kernel
theorem d_M_isAlike_248 : decode b_M_isAlike 248 = .ok (.iadd, 1) := by decide +kernel
theorem d_M_isAlike_249 : decode b_M_isAlike 249 = .ok (.laload, 1) := by decide +kernel
theorem d_M_isAlike_250 : decode b_M_isAlike 250 = .ok (.aload_n 0, 1) := by decide +kernel
theorem d_M_isAlike_251 : decode b_M_isAlike 251 = .ok (.getfield 195, 3) := by decide +kernel
theorem d_M_isAlike_254 : decode b_M_isAlike 254 = .ok (.bipush 32, 2) := by decide +kernel
theorem d_M_isAlike_256 : decode b_M_isAlike 256 = .ok (.aload_n 0, 1) := by decide +kernel
theorem d_M_isAlike_257 : decode b_M_isAlike 257 = .ok (.getfield 489, 3) := by decide +kernel
theorem d_M_isAlike_260 : decode b_M_isAlike 260 = .ok (.imul, 1) := by decide +kernel
theorem d_M_isAlike_261 : decode b_M_isAlike 261 = .ok (.iload 6, 2) := by decide +kernel
theorem d_M_isAlike_263 : decode b_M_isAlike 263 = .ok (.iadd, 1) := by decide +kernel
theorem d_M_isAlike_264 : decode b_M_isAlike 264 = .ok (.laload, 1) := by decide +kernel
theorem d_M_isAlike_265 : decode b_M_isAlike 265 = .ok (.lcmp, 1) := by decide +kernel
theorem d_M_isAlike_266 : decode b_M_isAlike 266 = .ok (.ifCond .ne 7, 3) := by decide +kernel
theorem d_M_isAlike_269 : decode b_M_isAlike 269 = .ok (.iconst 1, 1) := by decide +kernel
theorem d_M_isAlike_270 : decode b_M_isAlike 270 = .ok (.goto 4, 3) := by decide +kernel
theorem d_M_isAlike_273 : decode b_M_isAlike 273 = .ok (.iconst 0, 1) := by decide +kernel
theorem d_M_isAlike_274 : decode b_M_isAlike 274 = .ok (.istore 4, 2) := by decide +kernel
theorem d_M_isAlike_276 : decode b_M_isAlike 276 = .ok (.iinc 6 1, 3) := by decide +kernel
theorem d_M_isAlike_279 : decode b_M_isAlike 279 = .ok (.goto (-60), 3) := by decide +kernel
theorem d_M_isAlike_282 : decode b_M_isAlike 282 = .ok (.iload 4, 2) := by decide +kernel
theorem d_M_isAlike_284 : decode b_M_isAlike 284 = .ok (.ireturn, 1) := by decide +kernel
theorem d_M_isThere_0 : decode b_M_isThere 0 = .ok (.iconst 0, 1) := by decide +kernel
theorem d_M_isThere_1 : decode b_M_isThere 1 = .ok (.istore_n 2, 1) := by decide +kernel
theorem d_M_isThere_2 : decode b_M_isThere 2 = .ok (.iconst 0, 1) := by decide +kernel
theorem d_M_isThere_3 : decode b_M_isThere 3 = .ok (.istore_n 3, 1) := by decide +kernel
theorem d_M_isThere_4 : decode b_M_isThere 4 = .ok (.iload_n 3, 1) := by decide +kernel
theorem d_M_isThere_5 : decode b_M_isThere 5 = .ok (.aload_n 0, 1) := by decide +kernel
theorem d_M_isThere_6 : decode b_M_isThere 6 = .ok (.getfield 489, 3) := by decide +kernel
theorem d_M_isThere_9 : decode b_M_isThere 9 = .ok (.if_icmp .ge 38, 3) := by decide +kernel
theorem d_M_isThere_12 : decode b_M_isThere 12 = .ok (.iload_n 2, 1) := by decide +kernel
theorem d_M_isThere_13 : decode b_M_isThere 13 = .ok (.ifCond .ne 34, 3) := by decide +kernel
theorem d_M_isThere_16 : decode b_M_isThere 16 = .ok (.aload_n 0, 1) := by decide +kernel
theorem d_M_isThere_17 : decode b_M_isThere 17 = .ok (.getfield 180, 3) := by decide +kernel
theorem d_M_isThere_20 : decode b_M_isThere 20 = .ok (.iload_n 3, 1) := by decide +kernel
theorem d_M_isThere_21 : decode b_M_isThere 21 = .ok (.iaload, 1) := by decide +kernel
theorem d_M_isThere_22 : decode b_M_isThere 22 = .ok (.iload_n 1, 1) := by decide +kernel
theorem d_M_isThere_23 : decode b_M_isThere 23 = .ok (.if_icmp .ne 16, 3) := by decide +kernel
theorem d_M_isThere_26 : decode b_M_isThere 26 = .ok (.aload_n 0, 1) := by decide +kernel
theorem d_M_isThere_27 : decode b_M_isThere 27 = .ok (.iload_n 1, 1) := by decide +kernel
theorem d_M_isThere_28 : decode b_M_isThere 28 = .ok (.iload_n 3, 1) := by decide +kernel
theorem d_M_isThere_29 : decode b_M_isThere 29 = .ok (.invokevirtual 575, 3) := by decide +kernel
theorem d_M_isThere_32 : decode b_M_isThere 32 = .ok (.ifCond .eq 7, 3) := by decide +kernel
theorem d_M_isThere_35 : decode b_M_isThere 35 = .ok (.iconst 1, 1) := by decide +kernel
theorem d_M_isThere_36 : decode b_M_isThere 36 = .ok (.goto 4, 3) := by decide +kernel
theorem d_M_isThere_39 : decode b_M_isThere 39 = .ok (.iconst 0, 1) := by decide +kernel
theorem d_M_isThere_40 : decode b_M_isThere 40 = .ok (.istore_n 2, 1) := by decide +kernel
theorem d_M_isThere_41 : decode b_M_isThere 41 = .ok (.iinc 3 1, 3) := by decide +kernel
theorem d_M_isThere_44 : decode b_M_isThere 44 = .ok (.goto (-40), 3) := by decide +kernel
theorem d_M_isThere_47 : decode b_M_isThere 47 = .ok (.iload_n 2, 1) := by decide +kernel
theorem d_M_isThere_48 : decode b_M_isThere 48 = .ok (.ireturn, 1) := by decide +kernel
theorem d_M_bring_0 : decode b_M_bring 0 = .ok (.aload_n 0, 1) := by decide +kernel
theorem d_M_bring_1 : decode b_M_bring 1 = .ok (.getfield 78, 3) := by decide +kernel
theorem d_M_bring_4 : decode b_M_bring 4 = .ok (.iload_n 1, 1) := by decide +kernel
theorem d_M_bring_5 : decode b_M_bring 5 = .ok (.iaload, 1) := by decide +kernel
theorem d_M_bring_6 : decode b_M_bring 6 = .ok (.istore_n 3, 1) := by decide +kernel
theorem d_M_bring_7 : decode b_M_bring 7 = .ok (.iload_n 3, 1) := by decide +kernel
theorem d_M_bring_8 : decode b_M_bring 8 = .ok (.iconst 4, 1) := by decide +kernel
theorem d_M_bring_9 : decode b_M_bring 9 = .ok (.if_icmp .ne 10, 3) := by decide +kernel
theorem d_M_bring_12 : decode b_M_bring 12 = .ok (.aload_n 0, 1) := by decide +kernel
theorem d_M_bring_13 : decode b_M_bring 13 = .ok (.iload_n 1, 1) := by decide +kernel
theorem d_M_bring_14 : decode b_M_bring 14 = .ok (.iload_n 2, 1) := by decide +kernel
theorem d_M_bring_15 : decode b_M_bring 15 = .ok (.invokevirtual 560, 3) := by decide +kernel
theorem d_M_bring_18 : decode b_M_bring 18 = .ok (.return_, 1) := by decide +kernel
theorem d_M_bring_19 : decode b_M_bring 19 = .ok (.iconst 0, 1) := by decide +kernel
theorem d_M_bring_20 : decode b_M_bring 20 = .ok (.istore 4, 2) := by decide +kernel
theorem d_M_bring_22 : decode b_M_bring 22 = .ok (.iload 4, 2) := by decide +kernel
theorem d_M_bring_24 : decode b_M_bring 24 = .ok (.aload_n 0, 1) := by decide +kernel
theorem d_M_bring_25 : decode b_M_bring 25 = .ok (.getfield 87, 3) := by decide +kernel
theorem d_M_bring_28 : decode b_M_bring 28 = .ok (.iload_n 1, 1) := by decide +kernel
theorem d_M_bring_29 : decode b_M_bring 29 = .ok (.iaload, 1) := by decide +kernel
theorem d_M_bring_30 : decode b_M_bring 30 = .ok (.if_icmp .ge 49, 3) := by decide +kernel
theorem d_M_bring_33 : decode b_M_bring 33 = .ok (.aload_n 0, 1) := by decide +kernel
theorem d_M_bring_34 : decode b_M_bring 34 = .ok (.getfield 183, 3) := by decide +kernel
theorem d_M_bring_37 : decode b_M_bring 37 = .ok (.iconst 4, 1) := by decide +kernel
theorem d_M_bring_38 : decode b_M_bring 38 = .ok (.aload_n 0, 1) := by decide +kernel
theorem d_M_bring_39 : decode b_M_bring 39 = .ok (.getfield 489, 3) := by decide +kernel
theorem d_M_bring_42 : decode b_M_bring 42 = .ok (.imul, 1) := by decide +kernel
theorem d_M_bring_43 : decode b_M_bring 43 = .ok (.iload 4, 2) := by decide +kernel
theorem d_M_bring_45 : decode b_M_bring 45 = .ok (.iadd, 1) := by decide +kernel
theorem d_M_bring_46 : decode b_M_bring 46 = .ok (.iload_n 2, 1) := by decide +kernel
theorem d_M_bring_47 : decode b_M_bring 47 = .ok (.iconst (-1), 1) := by decide +kernel
theorem d_M_bring_48 : decode b_M_bring 48 = .ok (.if_icmp .ne 13, 3) := by decide +kernel
theorem d_M_bring_51 : decode b_M_bring 51 = .ok (.aload_n 0, 1) := by decide +kernel
theorem d_M_bring_52 : decode b_M_bring 52 = .ok (.iload_n 1, 1) := by decide +kernel
theorem d_M_bring_53 : decode b_M_bring 53 = .ok (.iload 4, 2) := by decide +kernel
theorem d_M_bring_55 : decode b_M_bring 55 = .ok (.invokevirtual 526, 3) := by decide +kernel
theorem d_M_bring_58 : decode b_M_bring 58 = .ok (.goto 14, 3) := by decide +kernel
theorem d_M_bring_61 : decode b_M_bring 61 = .ok (.aload_n 0, 1) := by decide +kernel
theorem d_M_bring_62 : decode b_M_bring 62 = .ok (.getfield 228, 3) := by decide +kernel
theorem d_M_bring_65 : decode b_M_bring 65 = .ok (.iconst 4, 1) := by decide +kernel
theorem d_M_bring_66 : decode b_M_bring 66 = .ok (.iload_n 2, 1) := by decide +kernel
theorem d_M_bring_67 : decode b_M_bring 67 = .ok (.imul, 1) := by decide +kernel
theorem d_M_bring_68 : decode b_M_bring 68 = .ok (.iload 4, 2) := by decide +kernel
theorem d_M_bring_70 : decode b_M_bring 70 = .ok (.iadd, 1) := by decide +kernel
theorem d_M_bring_71 : decode b_M_bring 71 = .ok (.laload, 1) := by decide +kernel
theorem d_M_bring_72 : decode b_M_bring 72 = .ok (.lastore, 1) := by decide +kernel
theorem d_M_bring_73 : decode b_M_bring 73 = .ok (.iinc 4 1, 3) := by decide +kernel
theorem d_M_bring_76 : decode b_M_bring 76 = .ok (.goto (-54), 3) := by decide +kernel
theorem d_M_bring_79 : decode b_M_bring 79 = .ok (.aload_n 0, 1) := by decide +kernel
theorem d_M_bring_80 : decode b_M_bring 80 = .ok (.getfield 180, 3) := by decide +kernel
theorem d_M_bring_83 : decode b_M_bring 83 = .ok (.aload_n 0, 1) := by decide +kernel
theorem d_M_bring_84 : decode b_M_bring 84 = .ok (.getfield 489, 3) := by decide +kernel
theorem d_M_bring_87 : decode b_M_bring 87 = .ok (.iload_n 3, 1) := by decide +kernel
theorem d_M_bring_88 : decode b_M_bring 88 = .ok (.iastore, 1) := by decide +kernel
theorem d_M_bring_89 : decode b_M_bring 89 = .ok (.aload_n 0, 1) := by decide +kernel
theorem d_M_bring_90 : decode b_M_bring 90 = .ok (.getfield 186, 3) := by decide +kernel
theorem d_M_bring_93 : decode b_M_bring 93 = .ok (.aload_n 0, 1) := by decide +kernel
theorem d_M_bring_94 : decode b_M_bring 94 = .ok (.getfield 489, 3) := by decide +kernel
theorem d_M_bring_97 : decode b_M_bring 97 = .ok (.iconst 0, 1) := by decide +kernel
theorem d_M_bring_98 : decode b_M_bring 98 = .ok (.iastore, 1) := by decide +kernel
theorem d_M_bring_99 : decode b_M_bring 99 = .ok (.aload_n 0, 1) := by decide +kernel
theorem d_M_bring_100 : decode b_M_bring 100 = .ok (.getfield 192, 3) := by decide +kernel
theorem d_M_bring_103 : decode b_M_bring 103 = .ok (.aload_n 0, 1) := by decide +kernel
theorem d_M_bring_104 : decode b_M_bring 104 = .ok (.getfield 489, 3) := by decide +kernel
theorem d_M_bring_107 : decode b_M_bring 107 = .ok (.iconst 0, 1) := by decide +kernel
theorem d_M_bring_108 : decode b_M_bring 108 = .ok (.iastore, 1) := by decide +kernel
theorem d_M_bring_109 : decode b_M_bring 109 = .ok (.aload_n 0, 1) := by decide +kernel
theorem d_M_bring_110 : decode b_M_bring 110 = .ok (.iload_n 1, 1) := by decide +kernel
theorem d_M_bring_111 : decode b_M_bring 111 = .ok (.iload_n 3, 1) := by decide +kernel
theorem d_M_bring_112 : decode b_M_bring 112 = .ok (.invokevirtual 563, 3) := by decide +kernel
theorem d_M_bring_115 : decode b_M_bring 115 = .ok (.aload_n 0, 1) := by decide +kernel
theorem d_M_bring_116 : decode b_M_bring 116 = .ok (.getfield 69, 3) := by decide +kernel
theorem d_M_bring_119 : decode b_M_bring 119 = .ok (.iload_n 3, 1) := by decide +kernel
theorem d_M_bring_120 : decode b_M_bring 120 = .ok (.baload, 1) := by decide +kernel
theorem d_M_bring_121 : decode b_M_bring 121 = .ok (.ifCond .ne 22, 3) := by decide +kernel
theorem d_M_bring_124 : decode b_M_bring 124 = .ok (.aload_n 0, 1) := by decide +kernel
theorem d_M_bring_125 : decode b_M_bring 125 = .ok (.getfield 75, 3) := by decide +kernel
theorem d_M_bring_128 : decode b_M_bring 128 = .ok (.iload_n 3, 1) := by decide +kernel
theorem d_M_bring_129 : decode b_M_bring 129 = .ok (.iaload, 1) := by decide +kernel
theorem d_M_bring_130 : decode b_M_bring 130 = .ok (.iconst 1, 1) := by decide +kernel
theorem d_M_bring_131 : decode b_M_bring 131 = .ok (.if_icmp .le 12, 3) := by decide +kernel
theorem d_M_bring_134 : decode b_M_bring 134 = .ok (.aload_n 0, 1) := by decide +kernel
