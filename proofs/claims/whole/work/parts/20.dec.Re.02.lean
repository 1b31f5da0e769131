theorem d_Re_source_5 : decode b_Re_source 5 = .ok (.getfield 267, 3) := by decide +kernel
theorem d_Re_source_8 : decode b_Re_source 8 = .ok (.iload_n 1, 1) := by decide +kernel
theorem d_Re_source_9 : decode b_Re_source 9 = .ok (.aload_n 0, 1) := by decide +kernel
theorem d_Re_source_10 : decode b_Re_source 10 = .ok (.getfield 21, 3) := by decide +kernel
theorem d_Re_source_13 : decode b_Re_source 13 = .ok (.aload_n 0, 1) := by decide +kernel
theorem d_Re_source_14 : decode b_Re_source 14 = .ok (.getfield 33, 3) := by decide +kernel
theorem d_Re_source_17 : decode b_Re_source 17 = .ok (.iaload, 1) := by decide +kernel
theorem d_Re_source_18 : decode b_Re_source 18 = .ok (.invokespecial 350, 3) := by decide +kernel
theorem d_Re_source_21 : decode b_Re_source 21 = .ok (.astore_n 2, 1) := by decide +kernel
theorem d_Re_source_22 : decode b_Re_source 22 = .ok (.aload_n 2, 1) := by decide +kernel
theorem d_Re_source_23 : decode b_Re_source 23 = .ok (.aload_n 0, 1) := by decide +kernel
theorem d_Re_source_24 : decode b_Re_source 24 = .ok (.invokevirtual 176, 3) := by decide +kernel
theorem d_Re_source_27 : decode b_Re_source 27 = .ok (.putfield 353, 3) := by decide +kernel
theorem d_Re_source_30 : decode b_Re_source 30 = .ok (.aload_n 2, 1) := by decide +kernel
theorem d_Re_source_31 : decode b_Re_source 31 = .ok (.aload_n 0, 1) := by decide +kernel
theorem d_Re_source_32 : decode b_Re_source 32 = .ok (.getfield 21, 3) := by decide +kernel
theorem d_Re_source_35 : decode b_Re_source 35 = .ok (.aload_n 0, 1) := by decide +kernel
theorem d_Re_source_36 : decode b_Re_source 36 = .ok (.getfield 33, 3) := by decide +kernel
theorem d_Re_source_39 : decode b_Re_source 39 = .ok (.iaload, 1) := by decide +kernel
theorem d_Re_source_40 : decode b_Re_source 40 = .ok (.putfield 354, 3) := by decide +kernel
theorem d_Re_source_43 : decode b_Re_source 43 = .ok (.aload_n 2, 1) := by decide +kernel
theorem d_Re_source_44 : decode b_Re_source 44 = .ok (.aload_n 0, 1) := by decide +kernel
theorem d_Re_source_45 : decode b_Re_source 45 = .ok (.invokevirtual 176, 3) := by decide +kernel
theorem d_Re_source_48 : decode b_Re_source 48 = .ok (.putfield 357, 3) := by decide +kernel
theorem d_Re_source_51 : decode b_Re_source 51 = .ok (.aload_n 0, 1) := by decide +kernel
theorem d_Re_source_52 : decode b_Re_source 52 = .ok (.getfield 107, 3) := by decide +kernel
theorem d_Re_source_55 : decode b_Re_source 55 = .ok (.getfield 360, 3) := by decide +kernel
theorem d_Re_source_58 : decode b_Re_source 58 = .ok (.aload_n 2, 1) := by decide +kernel
theorem d_Re_source_59 : decode b_Re_source 59 = .ok (.invokevirtual 363, 3) := by decide +kernel
theorem d_Re_source_62 : decode b_Re_source 62 = .ok (.pop, 1) := by decide +kernel
theorem d_Re_source_63 : decode b_Re_source 63 = .ok (.aload_n 2, 1) := by decide +kernel
theorem d_Re_source_64 : decode b_Re_source 64 = .ok (.areturn, 1) := by decide +kernel
theorem d_Re_comparison_0 : decode b_Re_comparison 0 = .ok (.aload_n 1, 1) := by decide +kernel
theorem d_Re_comparison_1 : decode b_Re_comparison 1 = .ok (.aload_n 0, 1) := by decide +kernel
theorem d_Re_comparison_2 : decode b_Re_comparison 2 = .ok (.invokevirtual 331, 3) := by decide +kernel
theorem d_Re_comparison_5 : decode b_Re_comparison 5 = .ok (.putfield 394, 3) := by decide +kernel
theorem d_Re_comparison_8 : decode b_Re_comparison 8 = .ok (.aload_n 1, 1) := by decide +kernel
theorem d_Re_comparison_9 : decode b_Re_comparison 9 = .ok (.aload_n 0, 1) := by decide +kernel
theorem d_Re_comparison_10 : decode b_Re_comparison 10 = .ok (.getfield 17, 3) := by decide +kernel
theorem d_Re_comparison_13 : decode b_Re_comparison 13 = .ok (.aload_n 0, 1) := by decide +kernel
theorem d_Re_comparison_14 : decode b_Re_comparison 14 = .ok (.getfield 33, 3) := by decide +kernel
theorem d_Re_comparison_17 : decode b_Re_comparison 17 = .ok (.aaload, 1) := by decide +kernel
theorem d_Re_comparison_18 : decode b_Re_comparison 18 = .ok (.putfield 382, 3) := by decide +kernel
theorem d_Re_comparison_21 : decode b_Re_comparison 21 = .ok (.aload_n 0, 1) := by decide +kernel
theorem d_Re_comparison_22 : decode b_Re_comparison 22 = .ok (.getstatic 397, 3) := by decide +kernel
theorem d_Re_comparison_25 : decode b_Re_comparison 25 = .ok (.invokevirtual 114, 3) := by decide +kernel
theorem d_Re_comparison_28 : decode b_Re_comparison 28 = .ok (.ifCond .eq 13, 3) := by decide +kernel
theorem d_Re_comparison_31 : decode b_Re_comparison 31 = .ok (.aload_n 0, 1) := by decide +kernel
theorem d_Re_comparison_32 : decode b_Re_comparison 32 = .ok (.getstatic 400, 3) := by decide +kernel
theorem d_Re_comparison_35 : decode b_Re_comparison 35 = .ok (.invokevirtual 186, 3) := by decide +kernel
theorem d_Re_comparison_38 : decode b_Re_comparison 38 = .ok (.goto 59, 3) := by decide +kernel
theorem d_Re_comparison_41 : decode b_Re_comparison 41 = .ok (.aload_n 0, 1) := by decide +kernel
theorem d_Re_comparison_42 : decode b_Re_comparison 42 = .ok (.getstatic 403, 3) := by decide +kernel
theorem d_Re_comparison_45 : decode b_Re_comparison 45 = .ok (.invokevirtual 114, 3) := by decide +kernel
theorem d_Re_comparison_48 : decode b_Re_comparison 48 = .ok (.ifCond .ne 33, 3) := by decide +kernel
theorem d_Re_comparison_51 : decode b_Re_comparison 51 = .ok (.aload_n 0, 1) := by decide +kernel
theorem d_Re_comparison_52 : decode b_Re_comparison 52 = .ok (.getstatic 406, 3) := by decide +kernel
theorem d_Re_comparison_55 : decode b_Re_comparison 55 = .ok (.invokevirtual 114, 3) := by decide +kernel
theorem d_Re_comparison_58 : decode b_Re_comparison 58 = .ok (.ifCond .ne 23, 3) := by decide +kernel
theorem d_Re_comparison_61 : decode b_Re_comparison 61 = .ok (.aload_n 0, 1) := by decide +kernel
theorem d_Re_comparison_62 : decode b_Re_comparison 62 = .ok (.getstatic 409, 3) := by decide +kernel
theorem d_Re_comparison_65 : decode b_Re_comparison 65 = .ok (.invokevirtual 114, 3) := by decide +kernel
theorem d_Re_comparison_68 : decode b_Re_comparison 68 = .ok (.ifCond .ne 13, 3) := by decide +kernel
theorem d_Re_comparison_71 : decode b_Re_comparison 71 = .ok (.aload_n 0, 1) := by decide +kernel
theorem d_Re_comparison_72 : decode b_Re_comparison 72 = .ok (.getstatic 412, 3) := by decide +kernel
theorem d_Re_comparison_75 : decode b_Re_comparison 75 = .ok (.invokevirtual 114, 3) := by decide +kernel
theorem d_Re_comparison_78 : decode b_Re_comparison 78 = .ok (.ifCond .eq 14, 3) := by decide +kernel
theorem d_Re_comparison_81 : decode b_Re_comparison 81 = .ok (.aload_n 1, 1) := by decide +kernel
theorem d_Re_comparison_82 : decode b_Re_comparison 82 = .ok (.aload_n 0, 1) := by decide +kernel
theorem d_Re_comparison_83 : decode b_Re_comparison 83 = .ok (.invokevirtual 331, 3) := by decide +kernel
theorem d_Re_comparison_86 : decode b_Re_comparison 86 = .ok (.putfield 415, 3) := by decide +kernel
theorem d_Re_comparison_89 : decode b_Re_comparison 89 = .ok (.goto 8, 3) := by decide +kernel
theorem d_Re_comparison_92 : decode b_Re_comparison 92 = .ok (.aload_n 0, 1) := by decide +kernel
theorem d_Re_comparison_93 : decode b_Re_comparison 93 = .ok (.iconst 1, 1) := by decide +kernel
theorem d_Re_comparison_94 : decode b_Re_comparison 94 = .ok (.putfield 97, 3) := by decide +kernel
theorem d_Re_comparison_97 : decode b_Re_comparison 97 = .ok (.return_, 1) := by decide +kernel
theorem d_Re_condition_0 : decode b_Re_condition 0 = .ok (.new 369, 3) := by decide +kernel
theorem d_Re_condition_3 : decode b_Re_condition 3 = .ok (.dup, 1) := by decide +kernel
theorem d_Re_condition_4 : decode b_Re_condition 4 = .ok (.invokespecial 371, 3) := by decide +kernel
theorem d_Re_condition_7 : decode b_Re_condition 7 = .ok (.astore_n 1, 1) := by decide +kernel
theorem d_Re_condition_8 : decode b_Re_condition 8 = .ok (.aload_n 0, 1) := by decide +kernel
theorem d_Re_condition_9 : decode b_Re_condition 9 = .ok (.aload_n 1, 1) := by decide +kernel
theorem d_Re_condition_10 : decode b_Re_condition 10 = .ok (.putfield 269, 3) := by decide +kernel
theorem d_Re_condition_13 : decode b_Re_condition 13 = .ok (.aload_n 0, 1) := by decide +kernel
theorem d_Re_condition_14 : decode b_Re_condition 14 = .ok (.getstatic 372, 3) := by decide +kernel
theorem d_Re_condition_17 : decode b_Re_condition 17 = .ok (.invokevirtual 114, 3) := by decide +kernel
theorem d_Re_condition_20 : decode b_Re_condition 20 = .ok (.ifCond .ne 15, 3) := by decide +kernel
theorem d_Re_condition_23 : decode b_Re_condition 23 = .ok (.aload_n 0, 1) := by decide +kernel
theorem d_Re_condition_24 : decode b_Re_condition 24 = .ok (.aload_n 1, 1) := by decide +kernel
theorem d_Re_condition_25 : decode b_Re_condition 25 = .ok (.invokevirtual 375, 3) := by decide +kernel
theorem d_Re_condition_28 : decode b_Re_condition 28 = .ok (.aload_n 0, 1) := by decide +kernel
theorem d_Re_condition_29 : decode b_Re_condition 29 = .ok (.aconst_null, 1) := by decide +kernel
theorem d_Re_condition_30 : decode b_Re_condition 30 = .ok (.putfield 269, 3) := by decide +kernel
theorem d_Re_condition_33 : decode b_Re_condition 33 = .ok (.aload_n 1, 1) := by decide +kernel
theorem d_Re_condition_34 : decode b_Re_condition 34 = .ok (.areturn, 1) := by decide +kernel
theorem d_Re_condition_35 : decode b_Re_condition 35 = .ok (.aload_n 1, 1) := by decide +kernel
theorem d_Re_condition_36 : decode b_Re_condition 36 = .ok (.getstatic 379, 3) := by decide +kernel
theorem d_Re_condition_39 : decode b_Re_condition 39 = .ok (.putfield 382, 3) := by decide +kernel
theorem d_Re_condition_42 : decode b_Re_condition 42 = .ok (.aload_n 0, 1) := by decide +kernel
theorem d_Re_condition_43 : decode b_Re_condition 43 = .ok (.getstatic 379, 3) := by decide +kernel
theorem d_Re_condition_46 : decode b_Re_condition 46 = .ok (.invokevirtual 186, 3) := by decide +kernel
theorem d_Re_condition_49 : decode b_Re_condition 49 = .ok (.aload_n 0, 1) := by decide +kernel
theorem d_Re_condition_50 : decode b_Re_condition 50 = .ok (.getstatic 183, 3) := by decide +kernel
theorem d_Re_condition_53 : decode b_Re_condition 53 = .ok (.invokevirtual 186, 3) := by decide +kernel
theorem d_Re_condition_56 : decode b_Re_condition 56 = .ok (.aload_n 0, 1) := by decide +kernel
theorem d_Re_condition_57 : decode b_Re_condition 57 = .ok (.getstatic 273, 3) := by decide +kernel
theorem d_Re_condition_60 : decode b_Re_condition 60 = .ok (.invokevirtual 186, 3) := by decide +kernel
theorem d_Re_condition_63 : decode b_Re_condition 63 = .ok (.aload_n 0, 1) := by decide +kernel
theorem d_Re_condition_64 : decode b_Re_condition 64 = .ok (.aload_n 0, 1) := by decide +kernel
theorem d_Re_condition_65 : decode b_Re_condition 65 = .ok (.getfield 97, 3) := by decide +kernel
theorem d_Re_condition_68 : decode b_Re_condition 68 = .ok (.ifCond .ne 32, 3) := by decide +kernel
theorem d_Re_condition_71 : decode b_Re_condition 71 = .ok (.aload_n 0, 1) := by decide +kernel
theorem d_Re_condition_72 : decode b_Re_condition 72 = .ok (.getfield 17, 3) := by decide +kernel
theorem d_Re_condition_75 : decode b_Re_condition 75 = .ok (.aload_n 0, 1) := by decide +kernel
theorem d_Re_condition_76 : decode b_Re_condition 76 = .ok (.getfield 33, 3) := by decide +kernel
theorem d_Re_condition_79 : decode b_Re_condition 79 = .ok (.aaload, 1) := by decide +kernel
theorem d_Re_condition_80 : decode b_Re_condition 80 = .ok (.getstatic 72, 3) := by decide +kernel
theorem d_Re_condition_83 : decode b_Re_condition 83 = .ok (.if_acmp .ne 17, 3) := by decide +kernel
theorem d_Re_condition_86 : decode b_Re_condition 86 = .ok (.aload_n 0, 1) := by decide +kernel
theorem d_Re_condition_87 : decode b_Re_condition 87 = .ok (.getfield 25, 3) := by decide +kernel
theorem d_Re_condition_90 : decode b_Re_condition 90 = .ok (.aload_n 0, 1) := by decide +kernel
theorem d_Re_condition_91 : decode b_Re_condition 91 = .ok (.getfield 33, 3) := by decide +kernel
theorem d_Re_condition_94 : decode b_Re_condition 94 = .ok (.laload, 1) := by decide +kernel
theorem d_Re_condition_95 : decode b_Re_condition 95 = .ok (.lconst 1, 1) := by decide +kernel
theorem d_Re_condition_96 : decode b_Re_condition 96 = .ok (.lcmp, 1) := by decide +kernel
theorem d_Re_condition_97 : decode b_Re_condition 97 = .ok (.ifCond .eq 7, 3) := by decide +kernel
theorem d_Re_condition_100 : decode b_Re_condition 100 = .ok (.iconst 1, 1) := by decide +kernel
theorem d_Re_condition_101 : decode b_Re_condition 101 = .ok (.goto 4, 3) := by decide +kernel
theorem d_Re_condition_104 : decode b_Re_condition 104 = .ok (.iconst 0, 1) := by decide +kernel
theorem d_Re_condition_105 : decode b_Re_condition 105 = .ok (.putfield 97, 3) := by decide +kernel
theorem d_Re_condition_108 : decode b_Re_condition 108 = .ok (.aload_n 0, 1) := by decide +kernel
theorem d_Re_condition_109 : decode b_Re_condition 109 = .ok (.getstatic 72, 3) := by decide +kernel
theorem d_Re_condition_112 : decode b_Re_condition 112 = .ok (.invokevirtual 186, 3) := by decide +kernel
theorem d_Re_condition_115 : decode b_Re_condition 115 = .ok (.aload_n 0, 1) := by decide +kernel
theorem d_Re_condition_116 : decode b_Re_condition 116 = .ok (.getstatic 279, 3) := by decide +kernel
theorem d_Re_condition_119 : decode b_Re_condition 119 = .ok (.invokevirtual 186, 3) := by decide +kernel
theorem d_Re_condition_122 : decode b_Re_condition 122 = .ok (.aload_n 1, 1) := by decide +kernel
theorem d_Re_condition_123 : decode b_Re_condition 123 = .ok (.aload_n 0, 1) := by decide +kernel
theorem d_Re_condition_124 : decode b_Re_condition 124 = .ok (.iconst (-1), 1) := by decide +kernel
theorem d_Re_condition_125 : decode b_Re_condition 125 = .ok (.invokevirtual 286, 3) := by decide +kernel
theorem d_Re_condition_128 : decode b_Re_condition 128 = .ok (.putfield 385, 3) := by decide +kernel
theorem d_Re_condition_131 : decode b_Re_condition 131 = .ok (.aload_n 0, 1) := by decide +kernel
theorem d_Re_condition_132 : decode b_Re_condition 132 = .ok (.getstatic 293, 3) := by decide +kernel
theorem d_Re_condition_135 : decode b_Re_condition 135 = .ok (.invokevirtual 114, 3) := by decide +kernel
theorem d_Re_condition_138 : decode b_Re_condition 138 = .ok (.istore_n 2, 1) := by decide +kernel
theorem d_Re_condition_139 : decode b_Re_condition 139 = .ok (.iconst 0, 1) := by decide +kernel
theorem d_Re_condition_140 : decode b_Re_condition 140 = .ok (.istore_n 3, 1) := by decide +kernel
theorem d_Re_condition_141 : decode b_Re_condition 141 = .ok (.iload_n 3, 1) := by decide +kernel
theorem d_Re_condition_142 : decode b_Re_condition 142 = .ok (.iconst 3, 1) := by decide +kernel
theorem d_Re_condition_143 : decode b_Re_condition 143 = .ok (.if_icmp .ge 66, 3) := by decide +kernel
theorem d_Re_condition_146 : decode b_Re_condition 146 = .ok (.iload_n 2, 1) := by decide +kernel
theorem d_Re_condition_147 : decode b_Re_condition 147 = .ok (.ifCond .eq 62, 3) := by decide +kernel
theorem d_Re_condition_150 : decode b_Re_condition 150 = .ok (.aload_n 1, 1) := by decide +kernel
theorem d_Re_condition_151 : decode b_Re_condition 151 = .ok (.getfield 388, 3) := by decide +kernel
theorem d_Re_condition_154 : decode b_Re_condition 154 = .ok (.iload_n 3, 1) := by decide +kernel
theorem d_Re_condition_155 : decode b_Re_condition 155 = .ok (.new 369, 3) := by decide +kernel
theorem d_Re_condition_158 : decode b_Re_condition 158 = .ok (.dup, 1) := by decide +kernel
theorem d_Re_condition_159 : decode b_Re_condition 159 = .ok (.invokespecial 371, 3) := by decide +kernel
theorem d_Re_condition_162 : decode b_Re_condition 162 = .ok (.aastore, 1) := by decide +kernel
theorem d_Re_condition_163 : decode b_Re_condition 163 = .ok (.aload_n 1, 1) := by decide +kernel
theorem d_Re_condition_164 : decode b_Re_condition 164 = .ok (.iload_n 3, 1) := by decide +kernel
theorem d_Re_condition_165 : decode b_Re_condition 165 = .ok (.iconst 1, 1) := by decide +kernel
theorem d_Re_condition_166 : decode b_Re_condition 166 = .ok (.iadd, 1) := by decide +kernel
theorem d_Re_condition_167 : decode b_Re_condition 167 = .ok (.putfield 391, 3) := by decide +kernel
theorem d_Re_condition_170 : decode b_Re_condition 170 = .ok (.aload_n 0, 1) := by decide +kernel
theorem d_Re_condition_171 : decode b_Re_condition 171 = .ok (.aload_n 1, 1) := by decide +kernel
theorem d_Re_condition_172 : decode b_Re_condition 172 = .ok (.getfield 388, 3) := by decide +kernel
theorem d_Re_condition_175 : decode b_Re_condition 175 = .ok (.iload_n 3, 1) := by decide +kernel
theorem d_Re_condition_176 : decode b_Re_condition 176 = .ok (.aaload, 1) := by decide +kernel
theorem d_Re_condition_177 : decode b_Re_condition 177 = .ok (.invokevirtual 375, 3) := by decide +kernel
theorem d_Re_condition_180 : decode b_Re_condition 180 = .ok (.iload_n 3, 1) := by decide +kernel
theorem d_Re_condition_181 : decode b_Re_condition 181 = .ok (.iconst 1, 1) := by decide +kernel
theorem d_Re_condition_182 : decode b_Re_condition 182 = .ok (.iadd, 1) := by decide +kernel
theorem d_Re_condition_183 : decode b_Re_condition 183 = .ok (.iconst 3, 1) := by decide +kernel
theorem d_Re_condition_184 : decode b_Re_condition 184 = .ok (.if_icmp .ge 17, 3) := by decide +kernel
theorem d_Re_condition_187 : decode b_Re_condition 187 = .ok (.aload_n 0, 1) := by decide +kernel
theorem d_Re_condition_188 : decode b_Re_condition 188 = .ok (.getstatic 307, 3) := by decide +kernel
theorem d_Re_condition_191 : decode b_Re_condition 191 = .ok (.invokevirtual 114, 3) := by decide +kernel
theorem d_Re_condition_194 : decode b_Re_condition 194 = .ok (.ifCond .eq 7, 3) := by decide +kernel
theorem d_Re_condition_197 : decode b_Re_condition 197 = .ok (.iconst 1, 1) := by decide +kernel
theorem d_Re_condition_198 : decode b_Re_condition 198 = .ok (.goto 4, 3) := by decide +kernel
theorem d_Re_condition_201 : decode b_Re_condition 201 = .ok (.iconst 0, 1) := by decide +kernel
theorem d_Re_condition_202 : decode b_Re_condition 202 = .ok (.istore_n 2, 1) := by decide +kernel
theorem d_Re_condition_203 : decode b_Re_condition 203 = .ok (.iinc 3 1, 3) := by decide +kernel
theorem d_Re_condition_206 : decode b_Re_condition 206 = .ok (.goto (-65), 3) := by decide +kernel
theorem d_Re_condition_209 : decode b_Re_condition 209 = .ok (.aload_n 0, 1) := by decide +kernel
theorem d_Re_condition_210 : decode b_Re_condition 210 = .ok (.getstatic 197, 3) := by decide +kernel
theorem d_Re_condition_213 : decode b_Re_condition 213 = .ok (.invokevirtual 186, 3) := by decide +kernel
theorem d_Re_condition_216 : decode b_Re_condition 216 = .ok (.aload_n 0, 1) := by decide +kernel
theorem d_Re_condition_217 : decode b_Re_condition 217 = .ok (.aconst_null, 1) := by decide +kernel
theorem d_Re_condition_218 : decode b_Re_condition 218 = .ok (.putfield 269, 3) := by decide +kernel
theorem d_Re_condition_221 : decode b_Re_condition 221 = .ok (.aload_n 1, 1) := by decide +kernel
theorem d_Re_condition_222 : decode b_Re_condition 222 = .ok (.areturn, 1) := by decide +kernel
theorem d_Re_selection_0 : decode b_Re_selection 0 = .ok (.new 262, 3) := by decide +kernel
theorem d_Re_selection_3 : decode b_Re_selection 3 = .ok (.dup, 1) := by decide +kernel
theorem d_Re_selection_4 : decode b_Re_selection 4 = .ok (.iload_n 1, 1) := by decide +kernel
theorem d_Re_selection_5 : decode b_Re_selection 5 = .ok (.aload_n 0, 1) := by decide +kernel
theorem d_Re_selection_6 : decode b_Re_selection 6 = .ok (.getfield 21, 3) := by decide +kernel
theorem d_Re_selection_9 : decode b_Re_selection 9 = .ok (.aload_n 0, 1) := by decide +kernel
theorem d_Re_selection_10 : decode b_Re_selection 10 = .ok (.getfield 33, 3) := by decide +kernel
theorem d_Re_selection_13 : decode b_Re_selection 13 = .ok (.iaload, 1) := by decide +kernel
theorem d_Re_selection_14 : decode b_Re_selection 14 = .ok (.invokespecial 264, 3) := by decide +kernel
theorem d_Re_selection_17 : decode b_Re_selection 17 = .ok (.astore_n 2, 1) := by decide +kernel
theorem d_Re_selection_18 : decode b_Re_selection 18 = .ok (.aload_n 0, 1) := by decide +kernel
theorem d_Re_selection_19 : decode b_Re_selection 19 = .ok (.aload_n 2, 1) := by decide +kernel
theorem d_Re_selection_20 : decode b_Re_selection 20 = .ok (.putfield 267, 3) := by decide +kernel
theorem d_Re_selection_23 : decode b_Re_selection 23 = .ok (.aload_n 0, 1) := by decide +kernel
theorem d_Re_selection_24 : decode b_Re_selection 24 = .ok (.aconst_null, 1) := by decide +kernel
theorem d_Re_selection_25 : decode b_Re_selection 25 = .ok (.putfield 269, 3) := by decide +kernel
theorem d_Re_selection_28 : decode b_Re_selection 28 = .ok (.aload_n 0, 1) := by decide +kernel
theorem d_Re_selection_29 : decode b_Re_selection 29 = .ok (.getstatic 273, 3) := by decide +kernel
theorem d_Re_selection_32 : decode b_Re_selection 32 = .ok (.invokevirtual 186, 3) := by decide +kernel
theorem d_Re_selection_35 : decode b_Re_selection 35 = .ok (.iconst 1, 1) := by decide +kernel
theorem d_Re_selection_36 : decode b_Re_selection 36 = .ok (.istore_n 3, 1) := by decide +kernel
theorem d_Re_selection_37 : decode b_Re_selection 37 = .ok (.iconst 0, 1) := by decide +kernel
theorem d_Re_selection_38 : decode b_Re_selection 38 = .ok (.istore 4, 2) := by decide +kernel
theorem d_Re_selection_40 : decode b_Re_selection 40 = .ok (.iload 4, 2) := by decide +kernel
theorem d_Re_selection_42 : decode b_Re_selection 42 = .ok (.iconst 4, 1) := by decide +kernel
theorem d_Re_selection_43 : decode b_Re_selection 43 = .ok (.if_icmp .ge 41, 3) := by decide +kernel
theorem d_Re_selection_46 : decode b_Re_selection 46 = .ok (.iload_n 3, 1) := by decide +kernel
theorem d_Re_selection_47 : decode b_Re_selection 47 = .ok (.ifCond .eq 37, 3) := by decide +kernel
theorem d_Re_selection_50 : decode b_Re_selection 50 = .ok (.aload_n 0, 1) := by decide +kernel
theorem d_Re_selection_51 : decode b_Re_selection 51 = .ok (.invokevirtual 276, 3) := by decide +kernel
theorem d_Re_selection_54 : decode b_Re_selection 54 = .ok (.iload 4, 2) := by decide +kernel
theorem d_Re_selection_56 : decode b_Re_selection 56 = .ok (.iconst 1, 1) := by decide +kernel
theorem d_Re_selection_57 : decode b_Re_selection 57 = .ok (.iadd, 1) := by decide +kernel
theorem d_Re_selection_58 : decode b_Re_selection 58 = .ok (.iconst 4, 1) := by decide +kernel
theorem d_Re_selection_59 : decode b_Re_selection 59 = .ok (.if_icmp .ge 17, 3) := by decide +kernel
theorem d_Re_selection_62 : decode b_Re_selection 62 = .ok (.aload_n 0, 1) := by decide +kernel
theorem d_Re_selection_63 : decode b_Re_selection 63 = .ok (.getstatic 156, 3) := by decide +kernel
theorem d_Re_selection_66 : decode b_Re_selection 66 = .ok (.invokevirtual 114, 3) := by decide +kernel
theorem d_Re_selection_69 : decode b_Re_selection 69 = .ok (.ifCond .eq 7, 3) := by decide +kernel
theorem d_Re_selection_72 : decode b_Re_selection 72 = .ok (.iconst 1, 1) := by decide +kernel
theorem d_Re_selection_73 : decode b_Re_selection 73 = .ok (.goto 4, 3) := by decide +kernel
theorem d_Re_selection_76 : decode b_Re_selection 76 = .ok (.iconst 0, 1) := by decide +kernel
theorem d_Re_selection_77 : decode b_Re_selection 77 = .ok (.istore_n 3, 1) := by decide +kernel
theorem d_Re_selection_78 : decode b_Re_selection 78 = .ok (.iinc 4 1, 3) := by decide +kernel
theorem d_Re_selection_81 : decode b_Re_selection 81 = .ok (.goto (-41), 3) := by decide +kernel
theorem d_Re_selection_84 : decode b_Re_selection 84 = .ok (.aload_n 0, 1) := by decide +kernel
theorem d_Re_selection_85 : decode b_Re_selection 85 = .ok (.getstatic 279, 3) := by decide +kernel
theorem d_Re_selection_88 : decode b_Re_selection 88 = .ok (.invokevirtual 114, 3) := by decide +kernel
theorem d_Re_selection_91 : decode b_Re_selection 91 = .ok (.istore_n 3, 1) := by decide +kernel
theorem d_Re_selection_92 : decode b_Re_selection 92 = .ok (.iconst 0, 1) := by decide +kernel
theorem d_Re_selection_93 : decode b_Re_selection 93 = .ok (.istore 4, 2) := by decide +kernel
theorem d_Re_selection_95 : decode b_Re_selection 95 = .ok (.iload 4, 2) := by decide +kernel
theorem d_Re_selection_97 : decode b_Re_selection 97 = .ok (.iconst 3, 1) := by decide +kernel
theorem d_Re_selection_98 : decode b_Re_selection 98 = .ok (.if_icmp .ge 58, 3) := by decide +kernel
theorem d_Re_selection_101 : decode b_Re_selection 101 = .ok (.iload_n 3, 1) := by decide +kernel
theorem d_Re_selection_102 : decode b_Re_selection 102 = .ok (.ifCond .eq 54, 3) := by decide +kernel
theorem d_Re_selection_105 : decode b_Re_selection 105 = .ok (.aload_n 2, 1) := by decide +kernel
theorem d_Re_selection_106 : decode b_Re_selection 106 = .ok (.getfield 282, 3) := by decide +kernel
theorem d_Re_selection_109 : decode b_Re_selection 109 = .ok (.iload 4, 2) := by decide +kernel
theorem d_Re_selection_111 : decode b_Re_selection 111 = .ok (.aload_n 0, 1) := by decide +kernel
theorem d_Re_selection_112 : decode b_Re_selection 112 = .ok (.iload 4, 2) := by decide +kernel
theorem d_Re_selection_114 : decode b_Re_selection 114 = .ok (.invokevirtual 286, 3) := by decide +kernel
theorem d_Re_selection_117 : decode b_Re_selection 117 = .ok (.aastore, 1) := by decide +kernel
theorem d_Re_selection_118 : decode b_Re_selection 118 = .ok (.aload_n 2, 1) := by decide +kernel
theorem d_Re_selection_119 : decode b_Re_selection 119 = .ok (.iload 4, 2) := by decide +kernel
theorem d_Re_selection_121 : decode b_Re_selection 121 = .ok (.iconst 1, 1) := by decide +kernel
theorem d_Re_selection_122 : decode b_Re_selection 122 = .ok (.iadd, 1) := by decide +kernel
theorem d_Re_selection_123 : decode b_Re_selection 123 = .ok (.putfield 290, 3) := by decide +kernel
theorem d_Re_selection_126 : decode b_Re_selection 126 = .ok (.iload 4, 2) := by decide +kernel
theorem d_Re_selection_128 : decode b_Re_selection 128 = .ok (.iconst 1, 1) := by decide +kernel
theorem d_Re_selection_129 : decode b_Re_selection 129 = .ok (.iadd, 1) := by decide +kernel
theorem d_Re_selection_130 : decode b_Re_selection 130 = .ok (.iconst 3, 1) := by decide +kernel
theorem d_Re_selection_131 : decode b_Re_selection 131 = .ok (.if_icmp .ge 17, 3) := by decide +kernel
theorem d_Re_selection_134 : decode b_Re_selection 134 = .ok (.aload_n 0, 1) := by decide +kernel
theorem d_Re_selection_135 : decode b_Re_selection 135 = .ok (.getstatic 156, 3) := by decide +kernel
theorem d_Re_selection_138 : decode b_Re_selection 138 = .ok (.invokevirtual 114, 3) := by decide +kernel
theorem d_Re_selection_141 : decode b_Re_selection 141 = .ok (.ifCond .eq 7, 3) := by decide +kernel
theorem d_Re_selection_144 : decode b_Re_selection 144 = .ok (.iconst 1, 1) := by decide +kernel
theorem d_Re_selection_145 : decode b_Re_selection 145 = .ok (.goto 4, 3) := by decide +kernel
theorem d_Re_selection_148 : decode b_Re_selection 148 = .ok (.iconst 0, 1) := by decide +kernel
theorem d_Re_selection_149 : decode b_Re_selection 149 = .ok (.istore_n 3, 1) := by decide +kernel
theorem d_Re_selection_150 : decode b_Re_selection 150 = .ok (.iinc 4 1, 3) := by decide +kernel
theorem d_Re_selection_153 : decode b_Re_selection 153 = .ok (.goto (-58), 3) := by decide +kernel
theorem d_Re_selection_156 : decode b_Re_selection 156 = .ok (.aload_n 0, 1) := by decide +kernel
theorem d_Re_selection_157 : decode b_Re_selection 157 = .ok (.getstatic 293, 3) := by decide +kernel
theorem d_Re_selection_160 : decode b_Re_selection 160 = .ok (.invokevirtual 114, 3) := by decide +kernel
theorem d_Re_selection_163 : decode b_Re_selection 163 = .ok (.istore_n 3, 1) := by decide +kernel
theorem d_Re_selection_164 : decode b_Re_selection 164 = .ok (.iconst 0, 1) := by decide +kernel
theorem d_Re_selection_165 : decode b_Re_selection 165 = .ok (.istore 4, 2) := by decide +kernel
theorem d_Re_selection_167 : decode b_Re_selection 167 = .ok (.iload 4, 2) := by decide +kernel
theorem d_Re_selection_169 : decode b_Re_selection 169 = .ok (.bipush 6, 2) := by decide +kernel
theorem d_Re_selection_171 : decode b_Re_selection 171 = .ok (.if_icmp .ge 57, 3) := by decide +kernel
theorem d_Re_selection_174 : decode b_Re_selection 174 = .ok (.iload_n 3, 1) := by decide +kernel
theorem d_Re_selection_175 : decode b_Re_selection 175 = .ok (.ifCond .eq 53, 3) := by decide +kernel
theorem d_Re_selection_178 : decode b_Re_selection 178 = .ok (.aload_n 2, 1) := by decide +kernel
theorem d_Re_selection_179 : decode b_Re_selection 179 = .ok (.getfield 296, 3) := by decide +kernel
theorem d_Re_selection_182 : decode b_Re_selection 182 = .ok (.iload 4, 2) := by decide +kernel
theorem d_Re_selection_184 : decode b_Re_selection 184 = .ok (.aload_n 0, 1) := by decide +kernel
theorem d_Re_selection_185 : decode b_Re_selection 185 = .ok (.invokevirtual 300, 3) := by decide +kernel
theorem d_Re_selection_188 : decode b_Re_selection 188 = .ok (.aastore, 1) := by decide +kernel
theorem d_Re_selection_189 : decode b_Re_selection 189 = .ok (.aload_n 2, 1) := by decide +kernel
theorem d_Re_selection_190 : decode b_Re_selection 190 = .ok (.iload 4, 2) := by decide +kernel
theorem d_Re_selection_192 : decode b_Re_selection 192 = .ok (.iconst 1, 1) := by decide +kernel
theorem d_Re_selection_193 : decode b_Re_selection 193 = .ok (.iadd, 1) := by decide +kernel
theorem d_Re_selection_194 : decode b_Re_selection 194 = .ok (.putfield 304, 3) := by decide +kernel
theorem d_Re_selection_197 : decode b_Re_selection 197 = .ok (.iload 4, 2) := by decide +kernel
theorem d_Re_selection_199 : decode b_Re_selection 199 = .ok (.iconst 1, 1) := by decide +kernel
theorem d_Re_selection_200 : decode b_Re_selection 200 = .ok (.iadd, 1) := by decide +kernel
theorem d_Re_selection_201 : decode b_Re_selection 201 = .ok (.bipush 6, 2) := by decide +kernel
theorem d_Re_selection_203 : decode b_Re_selection 203 = .ok (.if_icmp .ge 17, 3) := by decide +kernel
theorem d_Re_selection_206 : decode b_Re_selection 206 = .ok (.aload_n 0, 1) := by decide +kernel
theorem d_Re_selection_207 : decode b_Re_selection 207 = .ok (.getstatic 307, 3) := by decide +kernel
theorem d_Re_selection_210 : decode b_Re_selection 210 = .ok (.invokevirtual 114, 3) := by decide +kernel
theorem d_Re_selection_213 : decode b_Re_selection 213 = .ok (.ifCond .eq 7, 3) := by decide +kernel
theorem d_Re_selection_216 : decode b_Re_selection 216 = .ok (.iconst 1, 1) := by decide +kernel
theorem d_Re_selection_217 : decode b_Re_selection 217 = .ok (.goto 4, 3) := by decide +kernel
theorem d_Re_selection_220 : decode b_Re_selection 220 = .ok (.iconst 0, 1) := by decide +kernel
theorem d_Re_selection_221 : decode b_Re_selection 221 = .ok (.istore_n 3, 1) := by decide +kernel
theorem d_Re_selection_222 : decode b_Re_selection 222 = .ok (.iinc 4 1, 3) := by decide +kernel
theorem d_Re_selection_225 : decode b_Re_selection 225 = .ok (.goto (-58), 3) := by decide +kernel
theorem d_Re_selection_228 : decode b_Re_selection 228 = .ok (.aload_n 2, 1) := by decide +kernel
theorem d_Re_selection_229 : decode b_Re_selection 229 = .ok (.areturn, 1) := by decide +kernel
theorem d_Re_joins_0 : decode b_Re_joins 0 = .ok (.aload_n 0, 1) := by decide +kernel
theorem d_Re_joins_1 : decode b_Re_joins 1 = .ok (.getstatic 205, 3) := by decide +kernel
theorem d_Re_joins_4 : decode b_Re_joins 4 = .ok (.invokevirtual 114, 3) := by decide +kernel
theorem d_Re_joins_7 : decode b_Re_joins 7 = .ok (.ifCond .ne 5, 3) := by decide +kernel
theorem d_Re_joins_10 : decode b_Re_joins 10 = .ok (.iconst 0, 1) := by decide +kernel
theorem d_Re_joins_11 : decode b_Re_joins 11 = .ok (.ireturn, 1) := by decide +kernel
theorem d_Re_joins_12 : decode b_Re_joins 12 = .ok (.aload_n 0, 1) := by decide +kernel
theorem d_Re_joins_13 : decode b_Re_joins 13 = .ok (.getstatic 208, 3) := by decide +kernel
theorem d_Re_joins_16 : decode b_Re_joins 16 = .ok (.invokevirtual 114, 3) := by decide +kernel
theorem d_Re_joins_19 : decode b_Re_joins 19 = .ok (.ifCond .eq 11, 3) := by decide +kernel
theorem d_Re_joins_22 : decode b_Re_joins 22 = .ok (.aload_n 1, 1) := by decide +kernel
theorem d_Re_joins_23 : decode b_Re_joins 23 = .ok (.iconst 1, 1) := by decide +kernel
theorem d_Re_joins_24 : decode b_Re_joins 24 = .ok (.putfield 211, 3) := by decide +kernel
theorem d_Re_joins_27 : decode b_Re_joins 27 = .ok (.goto 8, 3) := by decide +kernel
theorem d_Re_joins_30 : decode b_Re_joins 30 = .ok (.aload_n 1, 1) := by decide +kernel
theorem d_Re_joins_31 : decode b_Re_joins 31 = .ok (.iconst 1, 1) := by decide +kernel
theorem d_Re_joins_32 : decode b_Re_joins 32 = .ok (.putfield 214, 3) := by decide +kernel
theorem d_Re_joins_35 : decode b_Re_joins 35 = .ok (.iconst 1, 1) := by decide +kernel
theorem d_Re_joins_36 : decode b_Re_joins 36 = .ok (.ireturn, 1) := by decide +kernel
theorem d_Re_tail_0 : decode b_Re_tail 0 = .ok (.aload_n 0, 1) := by decide +kernel
theorem d_Re_tail_1 : decode b_Re_tail 1 = .ok (.getstatic 197, 3) := by decide +kernel
theorem d_Re_tail_4 : decode b_Re_tail 4 = .ok (.invokevirtual 186, 3) := by decide +kernel
theorem d_Re_tail_7 : decode b_Re_tail 7 = .ok (.aload_n 1, 1) := by decide +kernel
theorem d_Re_tail_8 : decode b_Re_tail 8 = .ok (.aload_n 0, 1) := by decide +kernel
theorem d_Re_tail_9 : decode b_Re_tail 9 = .ok (.getstatic 217, 3) := by decide +kernel
theorem d_Re_tail_12 : decode b_Re_tail 12 = .ok (.invokevirtual 114, 3) := by decide +kernel
theorem d_Re_tail_15 : decode b_Re_tail 15 = .ok (.putfield 220, 3) := by decide +kernel
theorem d_Re_tail_18 : decode b_Re_tail 18 = .ok (.aload_n 1, 1) := by decide +kernel
theorem d_Re_tail_19 : decode b_Re_tail 19 = .ok (.getfield 220, 3) := by decide +kernel
theorem d_Re_tail_22 : decode b_Re_tail 22 = .ok (.ifCond .eq 61, 3) := by decide +kernel
theorem d_Re_tail_25 : decode b_Re_tail 25 = .ok (.aload_n 1, 1) := by decide +kernel
theorem d_Re_tail_26 : decode b_Re_tail 26 = .ok (.aload_n 0, 1) := by decide +kernel
theorem d_Re_tail_27 : decode b_Re_tail 27 = .ok (.getstatic 223, 3) := by decide +kernel
theorem d_Re_tail_30 : decode b_Re_tail 30 = .ok (.invokevirtual 114, 3) := by decide +kernel
theorem d_Re_tail_33 : decode b_Re_tail 33 = .ok (.putfield 226, 3) := by decide +kernel
theorem d_Re_tail_36 : decode b_Re_tail 36 = .ok (.aload_n 1, 1) := by decide +kernel
theorem d_Re_tail_37 : decode b_Re_tail 37 = .ok (.getfield 226, 3) := by decide +kernel
theorem d_Re_tail_40 : decode b_Re_tail 40 = .ok (.ifCond .ne 10, 3) := by decide +kernel
theorem d_Re_tail_43 : decode b_Re_tail 43 = .ok (.aload_n 0, 1) := by decide +kernel
theorem d_Re_tail_44 : decode b_Re_tail 44 = .ok (.getstatic 229, 3) := by decide +kernel
theorem d_Re_tail_47 : decode b_Re_tail 47 = .ok (.invokevirtual 186, 3) := by decide +kernel
theorem d_Re_tail_50 : decode b_Re_tail 50 = .ok (.aload_n 0, 1) := by decide +kernel
theorem d_Re_tail_51 : decode b_Re_tail 51 = .ok (.getstatic 232, 3) := by decide +kernel
theorem d_Re_tail_54 : decode b_Re_tail 54 = .ok (.invokevirtual 186, 3) := by decide +kernel
theorem d_Re_tail_57 : decode b_Re_tail 57 = .ok (.aload_n 0, 1) := by decide +kernel
theorem d_Re_tail_58 : decode b_Re_tail 58 = .ok (.getstatic 235, 3) := by decide +kernel
theorem d_Re_tail_61 : decode b_Re_tail 61 = .ok (.invokevirtual 186, 3) := by decide +kernel
theorem d_Re_tail_64 : decode b_Re_tail 64 = .ok (.aload_n 0, 1) := by decide +kernel
theorem d_Re_tail_65 : decode b_Re_tail 65 = .ok (.aload_n 1, 1) := by decide +kernel
theorem d_Re_tail_66 : decode b_Re_tail 66 = .ok (.iconst 5, 1) := by decide +kernel
theorem d_Re_tail_67 : decode b_Re_tail 67 = .ok (.invokevirtual 190, 3) := by decide +kernel
theorem d_Re_tail_70 : decode b_Re_tail 70 = .ok (.aload_n 0, 1) := by decide +kernel
theorem d_Re_tail_71 : decode b_Re_tail 71 = .ok (.getstatic 238, 3) := by decide +kernel
theorem d_Re_tail_74 : decode b_Re_tail 74 = .ok (.invokevirtual 186, 3) := by decide +kernel
theorem d_Re_tail_77 : decode b_Re_tail 77 = .ok (.aload_n 0, 1) := by decide +kernel
theorem d_Re_tail_78 : decode b_Re_tail 78 = .ok (.aload_n 1, 1) := by decide +kernel
theorem d_Re_tail_79 : decode b_Re_tail 79 = .ok (.iconst 4, 1) := by decide +kernel
theorem d_Re_tail_80 : decode b_Re_tail 80 = .ok (.invokevirtual 190, 3) := by decide +kernel
theorem d_Re_tail_83 : decode b_Re_tail 83 = .ok (.aload_n 1, 1) := by decide +kernel
theorem d_Re_tail_84 : decode b_Re_tail 84 = .ok (.aload_n 0, 1) := by decide +kernel
theorem d_Re_tail_85 : decode b_Re_tail 85 = .ok (.getstatic 241, 3) := by decide +kernel
theorem d_Re_tail_88 : decode b_Re_tail 88 = .ok (.invokevirtual 114, 3) := by decide +kernel
theorem d_Re_tail_91 : decode b_Re_tail 91 = .ok (.putfield 244, 3) := by decide +kernel
theorem d_Re_tail_94 : decode b_Re_tail 94 = .ok (.aload_n 1, 1) := by decide +kernel
theorem d_Re_tail_95 : decode b_Re_tail 95 = .ok (.getfield 244, 3) := by decide +kernel
theorem d_Re_tail_98 : decode b_Re_tail 98 = .ok (.ifCond .eq 23, 3) := by decide +kernel
theorem d_Re_tail_101 : decode b_Re_tail 101 = .ok (.aload_n 0, 1) := by decide +kernel
theorem d_Re_tail_102 : decode b_Re_tail 102 = .ok (.aload_n 1, 1) := by decide +kernel
theorem d_Re_tail_103 : decode b_Re_tail 103 = .ok (.bipush 6, 2) := by decide +kernel
theorem d_Re_tail_105 : decode b_Re_tail 105 = .ok (.invokevirtual 190, 3) := by decide +kernel
theorem d_Re_tail_108 : decode b_Re_tail 108 = .ok (.aload_n 0, 1) := by decide +kernel
theorem d_Re_tail_109 : decode b_Re_tail 109 = .ok (.getstatic 238, 3) := by decide +kernel
theorem d_Re_tail_112 : decode b_Re_tail 112 = .ok (.invokevirtual 186, 3) := by decide +kernel
theorem d_Re_tail_115 : decode b_Re_tail 115 = .ok (.aload_n 0, 1) := by decide +kernel
theorem d_Re_tail_116 : decode b_Re_tail 116 = .ok (.aload_n 1, 1) := by decide +kernel
theorem d_Re_tail_117 : decode b_Re_tail 117 = .ok (.iconst 3, 1) := by decide +kernel
theorem d_Re_tail_118 : decode b_Re_tail 118 = .ok (.invokevirtual 190, 3) := by decide +kernel
theorem d_Re_tail_121 : decode b_Re_tail 121 = .ok (.return_, 1) := by decide +kernel
theorem d_Re_order_0 : decode b_Re_order 0 = .ok (.aload_n 0, 1) := by decide +kernel
theorem d_Re_order_1 : decode b_Re_order 1 = .ok (.getstatic 235, 3) := by decide +kernel
theorem d_Re_order_4 : decode b_Re_order 4 = .ok (.invokevirtual 186, 3) := by decide +kernel
theorem d_Re_order_7 : decode b_Re_order 7 = .ok (.iconst 1, 1) := by decide +kernel
theorem d_Re_order_8 : decode b_Re_order 8 = .ok (.istore_n 1, 1) := by decide +kernel
theorem d_Re_order_9 : decode b_Re_order 9 = .ok (.iconst 0, 1) := by decide +kernel
theorem d_Re_order_10 : decode b_Re_order 10 = .ok (.istore_n 2, 1) := by decide +kernel
theorem d_Re_order_11 : decode b_Re_order 11 = .ok (.iload_n 2, 1) := by decide +kernel
theorem d_Re_order_12 : decode b_Re_order 12 = .ok (.iconst 2, 1) := by decide +kernel
theorem d_Re_order_13 : decode b_Re_order 13 = .ok (.if_icmp .ge 104, 3) := by decide +kernel
theorem d_Re_order_16 : decode b_Re_order 16 = .ok (.iload_n 1, 1) := by decide +kernel
theorem d_Re_order_17 : decode b_Re_order 17 = .ok (.ifCond .eq 100, 3) := by decide +kernel
theorem d_Re_order_20 : decode b_Re_order 20 = .ok (.aload_n 0, 1) := by decide +kernel
theorem d_Re_order_21 : decode b_Re_order 21 = .ok (.aload_n 0, 1) := by decide +kernel
theorem d_Re_order_22 : decode b_Re_order 22 = .ok (.getfield 97, 3) := by decide +kernel
theorem d_Re_order_25 : decode b_Re_order 25 = .ok (.ifCond .ne 18, 3) := by decide +kernel
theorem d_Re_order_28 : decode b_Re_order 28 = .ok (.aload_n 0, 1) := by decide +kernel
theorem d_Re_order_29 : decode b_Re_order 29 = .ok (.getfield 17, 3) := by decide +kernel
theorem d_Re_order_32 : decode b_Re_order 32 = .ok (.aload_n 0, 1) := by decide +kernel
theorem d_Re_order_33 : decode b_Re_order 33 = .ok (.getfield 33, 3) := by decide +kernel
theorem d_Re_order_36 : decode b_Re_order 36 = .ok (.aaload, 1) := by decide +kernel
theorem d_Re_order_37 : decode b_Re_order 37 = .ok (.getstatic 66, 3) := by decide +kernel
theorem d_Re_order_40 : decode b_Re_order 40 = .ok (.if_acmp .eq 7, 3) := by decide +kernel
theorem d_Re_order_43 : decode b_Re_order 43 = .ok (.iconst 1, 1) := by decide +kernel
theorem d_Re_order_44 : decode b_Re_order 44 = .ok (.goto 4, 3) := by decide +kernel
theorem d_Re_order_47 : decode b_Re_order 47 = .ok (.iconst 0, 1) := by decide +kernel
theorem d_Re_order_48 : decode b_Re_order 48 = .ok (.putfield 97, 3) := by decide +kernel
theorem d_Re_order_51 : decode b_Re_order 51 = .ok (.aload_n 0, 1) := by decide +kernel
theorem d_Re_order_52 : decode b_Re_order 52 = .ok (.getfield 107, 3) := by decide +kernel
theorem d_Re_order_55 : decode b_Re_order 55 = .ok (.getfield 247, 3) := by decide +kernel
theorem d_Re_order_58 : decode b_Re_order 58 = .ok (.iload_n 2, 1) := by decide +kernel
theorem d_Re_order_59 : decode b_Re_order 59 = .ok (.aload_n 0, 1) := by decide +kernel
theorem d_Re_order_60 : decode b_Re_order 60 = .ok (.iconst 0, 1) := by decide +kernel
theorem d_Re_order_61 : decode b_Re_order 61 = .ok (.invokevirtual 250, 3) := by decide +kernel
theorem d_Re_order_64 : decode b_Re_order 64 = .ok (.aastore, 1) := by decide +kernel
theorem d_Re_order_65 : decode b_Re_order 65 = .ok (.aload_n 0, 1) := by decide +kernel
theorem d_Re_order_66 : decode b_Re_order 66 = .ok (.getfield 107, 3) := by decide +kernel
theorem d_Re_order_69 : decode b_Re_order 69 = .ok (.getfield 247, 3) := by decide +kernel
theorem d_Re_order_72 : decode b_Re_order 72 = .ok (.iload_n 2, 1) := by decide +kernel
theorem d_Re_order_73 : decode b_Re_order 73 = .ok (.aaload, 1) := by decide +kernel
theorem d_Re_order_74 : decode b_Re_order 74 = .ok (.iconst 1, 1) := by decide +kernel
theorem d_Re_order_75 : decode b_Re_order 75 = .ok (.putfield 254, 3) := by decide +kernel
theorem d_Re_order_78 : decode b_Re_order 78 = .ok (.aload_n 0, 1) := by decide +kernel
theorem d_Re_order_79 : decode b_Re_order 79 = .ok (.getfield 107, 3) := by decide +kernel
theorem d_Re_order_82 : decode b_Re_order 82 = .ok (.iload_n 2, 1) := by decide +kernel
theorem d_Re_order_83 : decode b_Re_order 83 = .ok (.iconst 1, 1) := by decide +kernel
theorem d_Re_order_84 : decode b_Re_order 84 = .ok (.iadd, 1) := by decide +kernel
theorem d_Re_order_85 : decode b_Re_order 85 = .ok (.putfield 259, 3) := by decide +kernel
theorem d_Re_order_88 : decode b_Re_order 88 = .ok (.iload_n 2, 1) := by decide +kernel
theorem d_Re_order_89 : decode b_Re_order 89 = .ok (.iconst 1, 1) := by decide +kernel
theorem d_Re_order_90 : decode b_Re_order 90 = .ok (.iadd, 1) := by decide +kernel
theorem d_Re_order_91 : decode b_Re_order 91 = .ok (.iconst 2, 1) := by decide +kernel
theorem d_Re_order_92 : decode b_Re_order 92 = .ok (.if_icmp .ge 17, 3) := by decide +kernel
theorem d_Re_order_95 : decode b_Re_order 95 = .ok (.aload_n 0, 1) := by decide +kernel
theorem d_Re_order_96 : decode b_Re_order 96 = .ok (.getstatic 156, 3) := by decide +kernel
theorem d_Re_order_99 : decode b_Re_order 99 = .ok (.invokevirtual 114, 3) := by decide +kernel
theorem d_Re_order_102 : decode b_Re_order 102 = .ok (.ifCond .eq 7, 3) := by decide +kernel
theorem d_Re_order_105 : decode b_Re_order 105 = .ok (.iconst 1, 1) := by decide +kernel
theorem d_Re_order_106 : decode b_Re_order 106 = .ok (.goto 4, 3) := by decide +kernel
theorem d_Re_order_109 : decode b_Re_order 109 = .ok (.iconst 0, 1) := by decide +kernel
theorem d_Re_order_110 : decode b_Re_order 110 = .ok (.istore_n 1, 1) := by decide +kernel
theorem d_Re_order_111 : decode b_Re_order 111 = .ok (.iinc 2 1, 3) := by decide +kernel
theorem d_Re_order_114 : decode b_Re_order 114 = .ok (.goto (-103), 3) := by decide +kernel
theorem d_Re_order_117 : decode b_Re_order 117 = .ok (.return_, 1) := by decide +kernel
theorem d_Re_read_0 : decode b_Re_read 0 = .ok (.aload_n 0, 1) := by decide +kernel
theorem d_Re_read_1 : decode b_Re_read 1 = .ok (.invokevirtual 101, 3) := by decide +kernel
theorem d_Re_read_4 : decode b_Re_read 4 = .ok (.aload_n 0, 1) := by decide +kernel
theorem d_Re_read_5 : decode b_Re_read 5 = .ok (.iconst 0, 1) := by decide +kernel
theorem d_Re_read_6 : decode b_Re_read 6 = .ok (.putfield 33, 3) := by decide +kernel
theorem d_Re_read_9 : decode b_Re_read 9 = .ok (.aload_n 0, 1) := by decide +kernel
theorem d_Re_read_10 : decode b_Re_read 10 = .ok (.iconst 0, 1) := by decide +kernel
theorem d_Re_read_11 : decode b_Re_read 11 = .ok (.putfield 97, 3) := by decide +kernel
theorem d_Re_read_14 : decode b_Re_read 14 = .ok (.aload_n 0, 1) := by decide +kernel
theorem d_Re_read_15 : decode b_Re_read 15 = .ok (.new 104, 3) := by decide +kernel
theorem d_Re_read_18 : decode b_Re_read 18 = .ok (.dup, 1) := by decide +kernel
theorem d_Re_read_19 : decode b_Re_read 19 = .ok (.invokespecial 106, 3) := by decide +kernel
theorem d_Re_read_22 : decode b_Re_read 22 = .ok (.putfield 107, 3) := by decide +kernel
theorem d_Re_read_25 : decode b_Re_read 25 = .ok (.aload_n 0, 1) := by decide +kernel
theorem d_Re_read_26 : decode b_Re_read 26 = .ok (.getstatic 111, 3) := by decide +kernel
theorem d_Re_read_29 : decode b_Re_read 29 = .ok (.invokevirtual 114, 3) := by decide +kernel
theorem d_Re_read_32 : decode b_Re_read 32 = .ok (.ifCond .eq 155, 3) := by decide +kernel
theorem d_Re_read_35 : decode b_Re_read 35 = .ok (.aload_n 0, 1) := by decide +kernel
theorem d_Re_read_36 : decode b_Re_read 36 = .ok (.getfield 107, 3) := by decide +kernel
theorem d_Re_read_39 : decode b_Re_read 39 = .ok (.aload_n 0, 1) := by decide +kernel
theorem d_Re_read_40 : decode b_Re_read 40 = .ok (.getstatic 118, 3) := by decide +kernel
theorem d_Re_read_43 : decode b_Re_read 43 = .ok (.invokevirtual 114, 3) := by decide +kernel
theorem d_Re_read_46 : decode b_Re_read 46 = .ok (.putfield 121, 3) := by decide +kernel
theorem d_Re_read_49 : decode b_Re_read 49 = .ok (.iconst 1, 1) := by decide +kernel
theorem d_Re_read_50 : decode b_Re_read 50 = .ok (.istore_n 1, 1) := by decide +kernel
theorem d_Re_read_51 : decode b_Re_read 51 = .ok (.iconst 0, 1) := by decide +kernel
theorem d_Re_read_52 : decode b_Re_read 52 = .ok (.istore_n 2, 1) := by decide +kernel
theorem d_Re_read_53 : decode b_Re_read 53 = .ok (.iload_n 2, 1) := by decide +kernel
theorem d_Re_read_54 : decode b_Re_read 54 = .ok (.iconst 4, 1) := by decide +kernel
theorem d_Re_read_55 : decode b_Re_read 55 = .ok (.if_icmp .ge 132, 3) := by decide +kernel
theorem d_Re_read_58 : decode b_Re_read 58 = .ok (.iload_n 1, 1) := by decide +kernel
theorem d_Re_read_59 : decode b_Re_read 59 = .ok (.ifCond .eq 128, 3) := by decide +kernel
theorem d_Re_read_62 : decode b_Re_read 62 = .ok (.aload_n 0, 1) := by decide +kernel
theorem d_Re_read_63 : decode b_Re_read 63 = .ok (.invokevirtual 124, 3) := by decide +kernel
theorem d_Re_read_66 : decode b_Re_read 66 = .ok (.astore_n 3, 1) := by decide +kernel
theorem d_Re_read_67 : decode b_Re_read 67 = .ok (.aload_n 0, 1) := by decide +kernel
theorem d_Re_read_68 : decode b_Re_read 68 = .ok (.getfield 107, 3) := by decide +kernel
theorem d_Re_read_71 : decode b_Re_read 71 = .ok (.getfield 128, 3) := by decide +kernel
theorem d_Re_read_74 : decode b_Re_read 74 = .ok (.iload_n 2, 1) := by decide +kernel
theorem d_Re_read_75 : decode b_Re_read 75 = .ok (.aload_n 3, 1) := by decide +kernel
theorem d_Re_read_76 : decode b_Re_read 76 = .ok (.aastore, 1) := by decide +kernel
theorem d_Re_read_77 : decode b_Re_read 77 = .ok (.aload_n 0, 1) := by decide +kernel
theorem d_Re_read_78 : decode b_Re_read 78 = .ok (.getfield 107, 3) := by decide +kernel
theorem d_Re_read_81 : decode b_Re_read 81 = .ok (.iload_n 2, 1) := by decide +kernel
theorem d_Re_read_82 : decode b_Re_read 82 = .ok (.iconst 1, 1) := by decide +kernel
theorem d_Re_read_83 : decode b_Re_read 83 = .ok (.iadd, 1) := by decide +kernel
theorem d_Re_read_84 : decode b_Re_read 84 = .ok (.putfield 132, 3) := by decide +kernel
theorem d_Re_read_87 : decode b_Re_read 87 = .ok (.iconst 1, 1) := by decide +kernel
theorem d_Re_read_88 : decode b_Re_read 88 = .ok (.istore 4, 2) := by decide +kernel
theorem d_Re_read_90 : decode b_Re_read 90 = .ok (.iconst 0, 1) := by decide +kernel
theorem d_Re_read_91 : decode b_Re_read 91 = .ok (.istore 5, 2) := by decide +kernel
theorem d_Re_read_93 : decode b_Re_read 93 = .ok (.iload 5, 2) := by decide +kernel
theorem d_Re_read_95 : decode b_Re_read 95 = .ok (.iconst 4, 1) := by decide +kernel
theorem d_Re_read_96 : decode b_Re_read 96 = .ok (.if_icmp .ge 57, 3) := by decide +kernel
theorem d_Re_read_99 : decode b_Re_read 99 = .ok (.iload 4, 2) := by decide +kernel
theorem d_Re_read_101 : decode b_Re_read 101 = .ok (.ifCond .eq 52, 3) := by decide +kernel
theorem d_Re_read_104 : decode b_Re_read 104 = .ok (.aload_n 3, 1) := by decide +kernel
theorem d_Re_read_105 : decode b_Re_read 105 = .ok (.getfield 135, 3) := by decide +kernel
theorem d_Re_read_108 : decode b_Re_read 108 = .ok (.iload 5, 2) := by decide +kernel
theorem d_Re_read_110 : decode b_Re_read 110 = .ok (.aload_n 0, 1) := by decide +kernel
theorem d_Re_read_111 : decode b_Re_read 111 = .ok (.iload_n 2, 1) := by decide +kernel
theorem d_Re_read_112 : decode b_Re_read 112 = .ok (.invokevirtual 141, 3) := by decide +kernel
theorem d_Re_read_115 : decode b_Re_read 115 = .ok (.aastore, 1) := by decide +kernel
theorem d_Re_read_116 : decode b_Re_read 116 = .ok (.aload_n 3, 1) := by decide +kernel
theorem d_Re_read_117 : decode b_Re_read 117 = .ok (.iload 5, 2) := by decide +kernel
theorem d_Re_read_119 : decode b_Re_read 119 = .ok (.iconst 1, 1) := by decide +kernel
theorem d_Re_read_120 : decode b_Re_read 120 = .ok (.iadd, 1) := by decide +kernel
theorem d_Re_read_121 : decode b_Re_read 121 = .ok (.putfield 145, 3) := by decide +kernel
theorem d_Re_read_124 : decode b_Re_read 124 = .ok (.iload 5, 2) := by decide +kernel
theorem d_Re_read_126 : decode b_Re_read 126 = .ok (.iconst 1, 1) := by decide +kernel
theorem d_Re_read_127 : decode b_Re_read 127 = .ok (.iadd, 1) := by decide +kernel
theorem d_Re_read_128 : decode b_Re_read 128 = .ok (.iconst 4, 1) := by decide +kernel
theorem d_Re_read_129 : decode b_Re_read 129 = .ok (.if_icmp .ge 15, 3) := by decide +kernel
theorem d_Re_read_132 : decode b_Re_read 132 = .ok (.aload_n 0, 1) := by decide +kernel
theorem d_Re_read_133 : decode b_Re_read 133 = .ok (.aload_n 3, 1) := by decide +kernel
theorem d_Re_read_134 : decode b_Re_read 134 = .ok (.invokevirtual 148, 3) := by decide +kernel
theorem d_Re_read_137 : decode b_Re_read 137 = .ok (.ifCond .eq 7, 3) := by decide +kernel
theorem d_Re_read_140 : decode b_Re_read 140 = .ok (.iconst 1, 1) := by decide +kernel
theorem d_Re_read_141 : decode b_Re_read 141 = .ok (.goto 4, 3) := by decide +kernel
theorem d_Re_read_144 : decode b_Re_read 144 = .ok (.iconst 0, 1) := by decide +kernel
theorem d_Re_read_145 : decode b_Re_read 145 = .ok (.istore 4, 2) := by decide +kernel
theorem d_Re_read_147 : decode b_Re_read 147 = .ok (.iinc 5 1, 3) := by decide +kernel
theorem d_Re_read_150 : decode b_Re_read 150 = .ok (.goto (-57), 3) := by decide +kernel
theorem d_Re_read_153 : decode b_Re_read 153 = .ok (.aload_n 0, 1) := by decide +kernel
theorem d_Re_read_154 : decode b_Re_read 154 = .ok (.aload_n 3, 1) := by decide +kernel
theorem d_Re_read_155 : decode b_Re_read 155 = .ok (.invokevirtual 152, 3) := by decide +kernel
theorem d_Re_read_158 : decode b_Re_read 158 = .ok (.iload_n 2, 1) := by decide +kernel
theorem d_Re_read_159 : decode b_Re_read 159 = .ok (.iconst 1, 1) := by decide +kernel
theorem d_Re_read_160 : decode b_Re_read 160 = .ok (.iadd, 1) := by decide +kernel
theorem d_Re_read_161 : decode b_Re_read 161 = .ok (.iconst 4, 1) := by decide +kernel
theorem d_Re_read_162 : decode b_Re_read 162 = .ok (.if_icmp .ge 17, 3) := by decide +kernel
theorem d_Re_read_165 : decode b_Re_read 165 = .ok (.aload_n 0, 1) := by decide +kernel
theorem d_Re_read_166 : decode b_Re_read 166 = .ok (.getstatic 156, 3) := by decide +kernel
theorem d_Re_read_169 : decode b_Re_read 169 = .ok (.invokevirtual 114, 3) := by decide +kernel
theorem d_Re_read_172 : decode b_Re_read 172 = .ok (.ifCond .eq 7, 3) := by decide +kernel
theorem d_Re_read_175 : decode b_Re_read 175 = .ok (.iconst 1, 1) := by decide +kernel
theorem d_Re_read_176 : decode b_Re_read 176 = .ok (.goto 4, 3) := by decide +kernel
theorem d_Re_read_179 : decode b_Re_read 179 = .ok (.iconst 0, 1) := by decide +kernel
theorem d_Re_read_180 : decode b_Re_read 180 = .ok (.istore_n 1, 1) := by decide +kernel
theorem d_Re_read_181 : decode b_Re_read 181 = .ok (.iinc 2 1, 3) := by decide +kernel
theorem d_Re_read_184 : decode b_Re_read 184 = .ok (.goto (-131), 3) := by decide +kernel
theorem d_Re_read_187 : decode b_Re_read 187 = .ok (.aload_n 0, 1) := by decide +kernel
theorem d_Re_read_188 : decode b_Re_read 188 = .ok (.getfield 107, 3) := by decide +kernel
theorem d_Re_read_191 : decode b_Re_read 191 = .ok (.aload_n 0, 1) := by decide +kernel
theorem d_Re_read_192 : decode b_Re_read 192 = .ok (.aload_n 0, 1) := by decide +kernel
theorem d_Re_read_193 : decode b_Re_read 193 = .ok (.getfield 107, 3) := by decide +kernel
theorem d_Re_read_196 : decode b_Re_read 196 = .ok (.getfield 132, 3) := by decide +kernel
theorem d_Re_read_199 : decode b_Re_read 199 = .ok (.invokevirtual 141, 3) := by decide +kernel
theorem d_Re_read_202 : decode b_Re_read 202 = .ok (.putfield 159, 3) := by decide +kernel
theorem d_Re_read_205 : decode b_Re_read 205 = .ok (.aload_n 0, 1) := by decide +kernel
theorem d_Re_read_206 : decode b_Re_read 206 = .ok (.getfield 107, 3) := by decide +kernel
theorem d_Re_read_209 : decode b_Re_read 209 = .ok (.aload_n 0, 1) := by decide +kernel
theorem d_Re_read_210 : decode b_Re_read 210 = .ok (.getfield 21, 3) := by decide +kernel
theorem d_Re_read_213 : decode b_Re_read 213 = .ok (.aload_n 0, 1) := by decide +kernel
theorem d_Re_read_214 : decode b_Re_read 214 = .ok (.getfield 33, 3) := by decide +kernel
theorem d_Re_read_217 : decode b_Re_read 217 = .ok (.iaload, 1) := by decide +kernel
theorem d_Re_read_218 : decode b_Re_read 218 = .ok (.putfield 163, 3) := by decide +kernel
theorem d_Re_read_221 : decode b_Re_read 221 = .ok (.aload_n 0, 1) := by decide +kernel
theorem d_Re_read_222 : decode b_Re_read 222 = .ok (.getstatic 166, 3) := by decide +kernel
theorem d_Re_read_225 : decode b_Re_read 225 = .ok (.invokevirtual 114, 3) := by decide +kernel
theorem d_Re_read_228 : decode b_Re_read 228 = .ok (.ifCond .eq 7, 3) := by decide +kernel
theorem d_Re_read_231 : decode b_Re_read 231 = .ok (.aload_n 0, 1) := by decide +kernel
theorem d_Re_read_232 : decode b_Re_read 232 = .ok (.invokevirtual 169, 3) := by decide +kernel
theorem d_Re_read_235 : decode b_Re_read 235 = .ok (.aload_n 0, 1) := by decide +kernel
theorem d_Re_read_236 : decode b_Re_read 236 = .ok (.getfield 97, 3) := by decide +kernel
theorem d_Re_read_239 : decode b_Re_read 239 = .ok (.ifCond .ne 18, 3) := by decide +kernel
theorem d_Re_read_242 : decode b_Re_read 242 = .ok (.aload_n 0, 1) := by decide +kernel
theorem d_Re_read_243 : decode b_Re_read 243 = .ok (.getfield 17, 3) := by decide +kernel
theorem d_Re_read_246 : decode b_Re_read 246 = .ok (.aload_n 0, 1) := by decide +kernel
theorem d_Re_read_247 : decode b_Re_read 247 = .ok (.getfield 33, 3) := by decide +kernel
theorem d_Re_read_250 : decode b_Re_read 250 = .ok (.aaload, 1) := by decide +kernel
theorem d_Re_read_251 : decode b_Re_read 251 = .ok (.getstatic 48, 3) := by decide +kernel
theorem d_Re_read_254 : decode b_Re_read 254 = .ok (.if_acmp .eq 7, 3) := by decide +kernel
theorem d_Re_read_257 : decode b_Re_read 257 = .ok (.aconst_null, 1) := by decide +kernel
theorem d_Re_read_258 : decode b_Re_read 258 = .ok (.goto 7, 3) := by decide +kernel
theorem d_Re_read_261 : decode b_Re_read 261 = .ok (.aload_n 0, 1) := by decide +kernel
theorem d_Re_read_262 : decode b_Re_read 262 = .ok (.getfield 107, 3) := by decide +kernel
theorem d_Re_read_265 : decode b_Re_read 265 = .ok (.areturn, 1) := by decide +kernel
theorem d_Re_stuckAt_0 : decode b_Re_stuckAt 0 = .ok (.iconst 1, 1) := by decide +kernel
theorem d_Re_stuckAt_1 : decode b_Re_stuckAt 1 = .ok (.bipush 10, 2) := by decide +kernel
theorem d_Re_stuckAt_3 : decode b_Re_stuckAt 3 = .ok (.aload_n 0, 1) := by decide +kernel
theorem d_Re_stuckAt_4 : decode b_Re_stuckAt 4 = .ok (.getfield 21, 3) := by decide +kernel
theorem d_Re_stuckAt_7 : decode b_Re_stuckAt 7 = .ok (.aload_n 0, 1) := by decide +kernel
theorem d_Re_stuckAt_8 : decode b_Re_stuckAt 8 = .ok (.getfield 33, 3) := by decide +kernel
theorem d_Re_stuckAt_11 : decode b_Re_stuckAt 11 = .ok (.iaload, 1) := by decide +kernel
theorem d_Re_stuckAt_12 : decode b_Re_stuckAt 12 = .ok (.imul, 1) := by decide +kernel
theorem d_Re_stuckAt_13 : decode b_Re_stuckAt 13 = .ok (.iadd, 1) := by decide +kernel
theorem d_Re_stuckAt_14 : decode b_Re_stuckAt 14 = .ok (.ireturn, 1) := by decide +kernel
