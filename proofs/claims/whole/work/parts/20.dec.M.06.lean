theorem d_M_findComponents_238 : decode b_M_findComponents 238 = .ok (.iload_n 2, 1) := by decide +kernel
theorem d_M_findComponents_239 : decode b_M_findComponents 239 = .ok (.invokevirtual 439, 3) := by decide +kernel
theorem d_M_findComponents_242 : decode b_M_findComponents 242 = .ok (.iload_n 3, 1) := by decide +kernel
theorem d_M_findComponents_243 : decode b_M_findComponents 243 = .ok (.ishr, 1) := by decide +kernel
theorem d_M_findComponents_244 : decode b_M_findComponents 244 = .ok (.iconst 1, 1) := by decide +kernel
theorem d_M_findComponents_245 : decode b_M_findComponents 245 = .ok (.iand, 1) := by decide +kernel
theorem d_M_findComponents_246 : decode b_M_findComponents 246 = .ok (.iconst 1, 1) := by decide +kernel
theorem d_M_findComponents_247 : decode b_M_findComponents 247 = .ok (.if_icmp .ne 13, 3) := by decide +kernel
theorem d_M_findComponents_250 : decode b_M_findComponents 250 = .ok (.aload_n 0, 1) := by decide +kernel
theorem d_M_findComponents_251 : decode b_M_findComponents 251 = .ok (.getfield 177, 3) := by decide +kernel
theorem d_M_findComponents_254 : decode b_M_findComponents 254 = .ok (.iload_n 3, 1) := by decide +kernel
theorem d_M_findComponents_255 : decode b_M_findComponents 255 = .ok (.aload_n 0, 1) := by decide +kernel
theorem d_M_findComponents_256 : decode b_M_findComponents 256 = .ok (.getfield 436, 3) := by decide +kernel
theorem d_M_findComponents_259 : decode b_M_findComponents 259 = .ok (.iastore, 1) := by decide +kernel
theorem d_M_findComponents_260 : decode b_M_findComponents 260 = .ok (.iinc 3 1, 3) := by decide +kernel
theorem d_M_findComponents_263 : decode b_M_findComponents 263 = .ok (.goto (-34), 3) := by decide +kernel
theorem d_M_findComponents_266 : decode b_M_findComponents 266 = .ok (.iload_n 1, 1) := by decide +kernel
theorem d_M_findComponents_267 : decode b_M_findComponents 267 = .ok (.aload_n 0, 1) := by decide +kernel
theorem d_M_findComponents_268 : decode b_M_findComponents 268 = .ok (.iload_n 2, 1) := by decide +kernel
theorem d_M_findComponents_269 : decode b_M_findComponents 269 = .ok (.invokevirtual 439, 3) := by decide +kernel
theorem d_M_findComponents_272 : decode b_M_findComponents 272 = .ok (.ior, 1) := by decide +kernel
theorem d_M_findComponents_273 : decode b_M_findComponents 273 = .ok (.istore_n 1, 1) := by decide +kernel
theorem d_M_findComponents_274 : decode b_M_findComponents 274 = .ok (.aload_n 0, 1) := by decide +kernel
theorem d_M_findComponents_275 : decode b_M_findComponents 275 = .ok (.dup, 1) := by decide +kernel
theorem d_M_findComponents_276 : decode b_M_findComponents 276 = .ok (.getfield 436, 3) := by decide +kernel
theorem d_M_findComponents_279 : decode b_M_findComponents 279 = .ok (.iconst 1, 1) := by decide +kernel
theorem d_M_findComponents_280 : decode b_M_findComponents 280 = .ok (.iadd, 1) := by decide +kernel
theorem d_M_findComponents_281 : decode b_M_findComponents 281 = .ok (.putfield 436, 3) := by decide +kernel
theorem d_M_findComponents_284 : decode b_M_findComponents 284 = .ok (.goto (-121), 3) := by decide +kernel
theorem d_M_findComponents_287 : decode b_M_findComponents 287 = .ok (.return_, 1) := by decide +kernel
theorem d_M_isRecursive_0 : decode b_M_isRecursive 0 = .ok (.aload_n 0, 1) := by decide +kernel
theorem d_M_isRecursive_1 : decode b_M_isRecursive 1 = .ok (.getfield 174, 3) := by decide +kernel
theorem d_M_isRecursive_4 : decode b_M_isRecursive 4 = .ok (.iload_n 1, 1) := by decide +kernel
theorem d_M_isRecursive_5 : decode b_M_isRecursive 5 = .ok (.iaload, 1) := by decide +kernel
theorem d_M_isRecursive_6 : decode b_M_isRecursive 6 = .ok (.iload_n 1, 1) := by decide +kernel
theorem d_M_isRecursive_7 : decode b_M_isRecursive 7 = .ok (.ishr, 1) := by decide +kernel
theorem d_M_isRecursive_8 : decode b_M_isRecursive 8 = .ok (.iconst 1, 1) := by decide +kernel
theorem d_M_isRecursive_9 : decode b_M_isRecursive 9 = .ok (.iand, 1) := by decide +kernel
theorem d_M_isRecursive_10 : decode b_M_isRecursive 10 = .ok (.iconst 1, 1) := by decide +kernel
theorem d_M_isRecursive_11 : decode b_M_isRecursive 11 = .ok (.if_icmp .ne 7, 3) := by decide +kernel
theorem d_M_isRecursive_14 : decode b_M_isRecursive 14 = .ok (.iconst 1, 1) := by decide +kernel
theorem d_M_isRecursive_15 : decode b_M_isRecursive 15 = .ok (.goto 4, 3) := by decide +kernel
theorem d_M_isRecursive_18 : decode b_M_isRecursive 18 = .ok (.iconst 0, 1) := by decide +kernel
theorem d_M_isRecursive_19 : decode b_M_isRecursive 19 = .ok (.ireturn, 1) := by decide +kernel
theorem d_M_checkBarred_0 : decode b_M_checkBarred 0 = .ok (.iconst 0, 1) := by decide +kernel
theorem d_M_checkBarred_1 : decode b_M_checkBarred 1 = .ok (.istore_n 3, 1) := by decide +kernel
theorem d_M_checkBarred_2 : decode b_M_checkBarred 2 = .ok (.aload_n 0, 1) := by decide +kernel
theorem d_M_checkBarred_3 : decode b_M_checkBarred 3 = .ok (.getfield 102, 3) := by decide +kernel
theorem d_M_checkBarred_6 : decode b_M_checkBarred 6 = .ok (.iload_n 1, 1) := by decide +kernel
theorem d_M_checkBarred_7 : decode b_M_checkBarred 7 = .ok (.baload, 1) := by decide +kernel
theorem d_M_checkBarred_8 : decode b_M_checkBarred 8 = .ok (.ifCond .eq 59, 3) := by decide +kernel
theorem d_M_checkBarred_11 : decode b_M_checkBarred 11 = .ok (.iload_n 3, 1) := by decide +kernel
theorem d_M_checkBarred_12 : decode b_M_checkBarred 12 = .ok (.aload_n 0, 1) := by decide +kernel
theorem d_M_checkBarred_13 : decode b_M_checkBarred 13 = .ok (.getfield 93, 3) := by decide +kernel
theorem d_M_checkBarred_16 : decode b_M_checkBarred 16 = .ok (.iload_n 1, 1) := by decide +kernel
theorem d_M_checkBarred_17 : decode b_M_checkBarred 17 = .ok (.iaload, 1) := by decide +kernel
theorem d_M_checkBarred_18 : decode b_M_checkBarred 18 = .ok (.if_icmp .ge 49, 3) := by decide +kernel
theorem d_M_checkBarred_21 : decode b_M_checkBarred 21 = .ok (.aload_n 0, 1) := by decide +kernel
theorem d_M_checkBarred_22 : decode b_M_checkBarred 22 = .ok (.aload_n 0, 1) := by decide +kernel
theorem d_M_checkBarred_23 : decode b_M_checkBarred 23 = .ok (.getfield 90, 3) := by decide +kernel
theorem d_M_checkBarred_26 : decode b_M_checkBarred 26 = .ok (.iload_n 1, 1) := by decide +kernel
theorem d_M_checkBarred_27 : decode b_M_checkBarred 27 = .ok (.iaload, 1) := by decide +kernel
theorem d_M_checkBarred_28 : decode b_M_checkBarred 28 = .ok (.iload_n 3, 1) := by decide +kernel
theorem d_M_checkBarred_29 : decode b_M_checkBarred 29 = .ok (.iadd, 1) := by decide +kernel
theorem d_M_checkBarred_30 : decode b_M_checkBarred 30 = .ok (.invokevirtual 429, 3) := by decide +kernel
theorem d_M_checkBarred_33 : decode b_M_checkBarred 33 = .ok (.iload_n 2, 1) := by decide +kernel
theorem d_M_checkBarred_34 : decode b_M_checkBarred 34 = .ok (.iand, 1) := by decide +kernel
theorem d_M_checkBarred_35 : decode b_M_checkBarred 35 = .ok (.ifCond .eq 26, 3) := by decide +kernel
theorem d_M_checkBarred_38 : decode b_M_checkBarred 38 = .ok (.aload_n 0, 1) := by decide +kernel
theorem d_M_checkBarred_39 : decode b_M_checkBarred 39 = .ok (.iconst 5, 1) := by decide +kernel
theorem d_M_checkBarred_40 : decode b_M_checkBarred 40 = .ok (.aload_n 0, 1) := by decide +kernel
theorem d_M_checkBarred_41 : decode b_M_checkBarred 41 = .ok (.getfield 29, 3) := by decide +kernel
theorem d_M_checkBarred_44 : decode b_M_checkBarred 44 = .ok (.aload_n 0, 1) := by decide +kernel
theorem d_M_checkBarred_45 : decode b_M_checkBarred 45 = .ok (.getfield 132, 3) := by decide +kernel
theorem d_M_checkBarred_48 : decode b_M_checkBarred 48 = .ok (.aload_n 0, 1) := by decide +kernel
theorem d_M_checkBarred_49 : decode b_M_checkBarred 49 = .ok (.getfield 90, 3) := by decide +kernel
theorem d_M_checkBarred_52 : decode b_M_checkBarred 52 = .ok (.iload_n 1, 1) := by decide +kernel
theorem d_M_checkBarred_53 : decode b_M_checkBarred 53 = .ok (.iaload, 1) := by decide +kernel
theorem d_M_checkBarred_54 : decode b_M_checkBarred 54 = .ok (.iload_n 3, 1) := by decide +kernel
theorem d_M_checkBarred_55 : decode b_M_checkBarred 55 = .ok (.iadd, 1) := by decide +kernel
theorem d_M_checkBarred_56 : decode b_M_checkBarred 56 = .ok (.iaload, 1) := by decide +kernel
theorem d_M_checkBarred_57 : decode b_M_checkBarred 57 = .ok (.iaload, 1) := by decide +kernel
theorem d_M_checkBarred_58 : decode b_M_checkBarred 58 = .ok (.invokevirtual 313, 3) := by decide +kernel
theorem d_M_checkBarred_61 : decode b_M_checkBarred 61 = .ok (.iinc 3 1, 3) := by decide +kernel
theorem d_M_checkBarred_64 : decode b_M_checkBarred 64 = .ok (.goto (-62), 3) := by decide +kernel
theorem d_M_checkBarred_67 : decode b_M_checkBarred 67 = .ok (.iconst 0, 1) := by decide +kernel
theorem d_M_checkBarred_68 : decode b_M_checkBarred 68 = .ok (.istore_n 3, 1) := by decide +kernel
theorem d_M_checkBarred_69 : decode b_M_checkBarred 69 = .ok (.iload_n 3, 1) := by decide +kernel
theorem d_M_checkBarred_70 : decode b_M_checkBarred 70 = .ok (.aload_n 0, 1) := by decide +kernel
theorem d_M_checkBarred_71 : decode b_M_checkBarred 71 = .ok (.getfield 96, 3) := by decide +kernel
theorem d_M_checkBarred_74 : decode b_M_checkBarred 74 = .ok (.iload_n 1, 1) := by decide +kernel
theorem d_M_checkBarred_75 : decode b_M_checkBarred 75 = .ok (.iaload, 1) := by decide +kernel
theorem d_M_checkBarred_76 : decode b_M_checkBarred 76 = .ok (.if_icmp .ge 71, 3) := by decide +kernel
theorem d_M_checkBarred_79 : decode b_M_checkBarred 79 = .ok (.aload_n 0, 1) := by decide +kernel
theorem d_M_checkBarred_80 : decode b_M_checkBarred 80 = .ok (.getfield 99, 3) := by decide +kernel
theorem d_M_checkBarred_83 : decode b_M_checkBarred 83 = .ok (.bipush 6, 2) := by decide +kernel
theorem d_M_checkBarred_85 : decode b_M_checkBarred 85 = .ok (.iload_n 1, 1) := by decide +kernel
theorem d_M_checkBarred_86 : decode b_M_checkBarred 86 = .ok (.imul, 1) := by decide +kernel
theorem d_M_checkBarred_87 : decode b_M_checkBarred 87 = .ok (.iload_n 3, 1) := by decide +kernel
theorem d_M_checkBarred_88 : decode b_M_checkBarred 88 = .ok (.iadd, 1) := by decide +kernel
theorem d_M_checkBarred_89 : decode b_M_checkBarred 89 = .ok (.iaload, 1) := by decide +kernel
theorem d_M_checkBarred_90 : decode b_M_checkBarred 90 = .ok (.istore 4, 2) := by decide +kernel
theorem d_M_checkBarred_92 : decode b_M_checkBarred 92 = .ok (.aload_n 0, 1) := by decide +kernel
theorem d_M_checkBarred_93 : decode b_M_checkBarred 93 = .ok (.getfield 141, 3) := by decide +kernel
theorem d_M_checkBarred_96 : decode b_M_checkBarred 96 = .ok (.iload 4, 2) := by decide +kernel
theorem d_M_checkBarred_98 : decode b_M_checkBarred 98 = .ok (.iaload, 1) := by decide +kernel
theorem d_M_checkBarred_99 : decode b_M_checkBarred 99 = .ok (.iconst 2, 1) := by decide +kernel
theorem d_M_checkBarred_100 : decode b_M_checkBarred 100 = .ok (.if_icmp .ne 41, 3) := by decide +kernel
theorem d_M_checkBarred_103 : decode b_M_checkBarred 103 = .ok (.aload_n 0, 1) := by decide +kernel
theorem d_M_checkBarred_104 : decode b_M_checkBarred 104 = .ok (.aload_n 0, 1) := by decide +kernel
theorem d_M_checkBarred_105 : decode b_M_checkBarred 105 = .ok (.getfield 153, 3) := by decide +kernel
theorem d_M_checkBarred_108 : decode b_M_checkBarred 108 = .ok (.iload 4, 2) := by decide +kernel
theorem d_M_checkBarred_110 : decode b_M_checkBarred 110 = .ok (.iaload, 1) := by decide +kernel
theorem d_M_checkBarred_111 : decode b_M_checkBarred 111 = .ok (.invokevirtual 429, 3) := by decide +kernel
theorem d_M_checkBarred_114 : decode b_M_checkBarred 114 = .ok (.iload_n 2, 1) := by decide +kernel
theorem d_M_checkBarred_115 : decode b_M_checkBarred 115 = .ok (.iand, 1) := by decide +kernel
theorem d_M_checkBarred_116 : decode b_M_checkBarred 116 = .ok (.ifCond .eq 25, 3) := by decide +kernel
theorem d_M_checkBarred_119 : decode b_M_checkBarred 119 = .ok (.aload_n 0, 1) := by decide +kernel
theorem d_M_checkBarred_120 : decode b_M_checkBarred 120 = .ok (.iconst 5, 1) := by decide +kernel
theorem d_M_checkBarred_121 : decode b_M_checkBarred 121 = .ok (.aload_n 0, 1) := by decide +kernel
theorem d_M_checkBarred_122 : decode b_M_checkBarred 122 = .ok (.getfield 29, 3) := by decide +kernel
theorem d_M_checkBarred_125 : decode b_M_checkBarred 125 = .ok (.aload_n 0, 1) := by decide +kernel
theorem d_M_checkBarred_126 : decode b_M_checkBarred 126 = .ok (.getfield 132, 3) := by decide +kernel
theorem d_M_checkBarred_129 : decode b_M_checkBarred 129 = .ok (.aload_n 0, 1) := by decide +kernel
theorem d_M_checkBarred_130 : decode b_M_checkBarred 130 = .ok (.getfield 153, 3) := by decide +kernel
theorem d_M_checkBarred_133 : decode b_M_checkBarred 133 = .ok (.iload 4, 2) := by decide +kernel
theorem d_M_checkBarred_135 : decode b_M_checkBarred 135 = .ok (.iaload, 1) := by decide +kernel
theorem d_M_checkBarred_136 : decode b_M_checkBarred 136 = .ok (.iaload, 1) := by decide +kernel
theorem d_M_checkBarred_137 : decode b_M_checkBarred 137 = .ok (.iaload, 1) := by decide +kernel
theorem d_M_checkBarred_138 : decode b_M_checkBarred 138 = .ok (.invokevirtual 313, 3) := by decide +kernel
theorem d_M_checkBarred_141 : decode b_M_checkBarred 141 = .ok (.iinc 3 1, 3) := by decide +kernel
theorem d_M_checkBarred_144 : decode b_M_checkBarred 144 = .ok (.goto (-75), 3) := by decide +kernel
theorem d_M_checkBarred_147 : decode b_M_checkBarred 147 = .ok (.return_, 1) := by decide +kernel
theorem d_M_timesNamed_0 : decode b_M_timesNamed 0 = .ok (.iconst 0, 1) := by decide +kernel
theorem d_M_timesNamed_1 : decode b_M_timesNamed 1 = .ok (.istore_n 3, 1) := by decide +kernel
theorem d_M_timesNamed_2 : decode b_M_timesNamed 2 = .ok (.iconst 0, 1) := by decide +kernel
theorem d_M_timesNamed_3 : decode b_M_timesNamed 3 = .ok (.istore 4, 2) := by decide +kernel
theorem d_M_timesNamed_5 : decode b_M_timesNamed 5 = .ok (.iload 4, 2) := by decide +kernel
theorem d_M_timesNamed_7 : decode b_M_timesNamed 7 = .ok (.aload_n 0, 1) := by decide +kernel
theorem d_M_timesNamed_8 : decode b_M_timesNamed 8 = .ok (.getfield 93, 3) := by decide +kernel
theorem d_M_timesNamed_11 : decode b_M_timesNamed 11 = .ok (.iload_n 1, 1) := by decide +kernel
theorem d_M_timesNamed_12 : decode b_M_timesNamed 12 = .ok (.iaload, 1) := by decide +kernel
theorem d_M_timesNamed_13 : decode b_M_timesNamed 13 = .ok (.if_icmp .ge 38, 3) := by decide +kernel
theorem d_M_timesNamed_16 : decode b_M_timesNamed 16 = .ok (.iload_n 3, 1) := by decide +kernel
theorem d_M_timesNamed_17 : decode b_M_timesNamed 17 = .ok (.aload_n 0, 1) := by decide +kernel
theorem d_M_timesNamed_18 : decode b_M_timesNamed 18 = .ok (.getfield 138, 3) := by decide +kernel
theorem d_M_timesNamed_21 : decode b_M_timesNamed 21 = .ok (.aload_n 0, 1) := by decide +kernel
theorem d_M_timesNamed_22 : decode b_M_timesNamed 22 = .ok (.getfield 90, 3) := by decide +kernel
theorem d_M_timesNamed_25 : decode b_M_timesNamed 25 = .ok (.iload_n 1, 1) := by decide +kernel
theorem d_M_timesNamed_26 : decode b_M_timesNamed 26 = .ok (.iaload, 1) := by decide +kernel
theorem d_M_timesNamed_27 : decode b_M_timesNamed 27 = .ok (.iload 4, 2) := by decide +kernel
theorem d_M_timesNamed_29 : decode b_M_timesNamed 29 = .ok (.iadd, 1) := by decide +kernel
theorem d_M_timesNamed_30 : decode b_M_timesNamed 30 = .ok (.iaload, 1) := by decide +kernel
theorem d_M_timesNamed_31 : decode b_M_timesNamed 31 = .ok (.bipush 10, 2) := by decide +kernel
theorem d_M_timesNamed_33 : decode b_M_timesNamed 33 = .ok (.iload_n 2, 1) := by decide +kernel
theorem d_M_timesNamed_34 : decode b_M_timesNamed 34 = .ok (.iadd, 1) := by decide +kernel
theorem d_M_timesNamed_35 : decode b_M_timesNamed 35 = .ok (.if_icmp .ne 7, 3) := by decide +kernel
theorem d_M_timesNamed_38 : decode b_M_timesNamed 38 = .ok (.iconst 1, 1) := by decide +kernel
theorem d_M_timesNamed_39 : decode b_M_timesNamed 39 = .ok (.goto 4, 3) := by decide +kernel
theorem d_M_timesNamed_42 : decode b_M_timesNamed 42 = .ok (.iconst 0, 1) := by decide +kernel
theorem d_M_timesNamed_43 : decode b_M_timesNamed 43 = .ok (.iadd, 1) := by decide +kernel
theorem d_M_timesNamed_44 : decode b_M_timesNamed 44 = .ok (.istore_n 3, 1) := by decide +kernel
theorem d_M_timesNamed_45 : decode b_M_timesNamed 45 = .ok (.iinc 4 1, 3) := by decide +kernel
theorem d_M_timesNamed_48 : decode b_M_timesNamed 48 = .ok (.goto (-43), 3) := by decide +kernel
theorem d_M_timesNamed_51 : decode b_M_timesNamed 51 = .ok (.iconst 0, 1) := by decide +kernel
theorem d_M_timesNamed_52 : decode b_M_timesNamed 52 = .ok (.istore 4, 2) := by decide +kernel
theorem d_M_timesNamed_54 : decode b_M_timesNamed 54 = .ok (.iload 4, 2) := by decide +kernel
theorem d_M_timesNamed_56 : decode b_M_timesNamed 56 = .ok (.aload_n 0, 1) := by decide +kernel
theorem d_M_timesNamed_57 : decode b_M_timesNamed 57 = .ok (.getfield 96, 3) := by decide +kernel
theorem d_M_timesNamed_60 : decode b_M_timesNamed 60 = .ok (.iload_n 1, 1) := by decide +kernel
theorem d_M_timesNamed_61 : decode b_M_timesNamed 61 = .ok (.iaload, 1) := by decide +kernel
theorem d_M_timesNamed_62 : decode b_M_timesNamed 62 = .ok (.if_icmp .ge 61, 3) := by decide +kernel
theorem d_M_timesNamed_65 : decode b_M_timesNamed 65 = .ok (.aload_n 0, 1) := by decide +kernel
theorem d_M_timesNamed_66 : decode b_M_timesNamed 66 = .ok (.getfield 99, 3) := by decide +kernel
theorem d_M_timesNamed_69 : decode b_M_timesNamed 69 = .ok (.bipush 6, 2) := by decide +kernel
theorem d_M_timesNamed_71 : decode b_M_timesNamed 71 = .ok (.iload_n 1, 1) := by decide +kernel
theorem d_M_timesNamed_72 : decode b_M_timesNamed 72 = .ok (.imul, 1) := by decide +kernel
theorem d_M_timesNamed_73 : decode b_M_timesNamed 73 = .ok (.iload 4, 2) := by decide +kernel
theorem d_M_timesNamed_75 : decode b_M_timesNamed 75 = .ok (.iadd, 1) := by decide +kernel
theorem d_M_timesNamed_76 : decode b_M_timesNamed 76 = .ok (.iaload, 1) := by decide +kernel
theorem d_M_timesNamed_77 : decode b_M_timesNamed 77 = .ok (.istore 5, 2) := by decide +kernel
theorem d_M_timesNamed_79 : decode b_M_timesNamed 79 = .ok (.iload_n 3, 1) := by decide +kernel
theorem d_M_timesNamed_80 : decode b_M_timesNamed 80 = .ok (.aload_n 0, 1) := by decide +kernel
theorem d_M_timesNamed_81 : decode b_M_timesNamed 81 = .ok (.getfield 141, 3) := by decide +kernel
theorem d_M_timesNamed_84 : decode b_M_timesNamed 84 = .ok (.iload 5, 2) := by decide +kernel
theorem d_M_timesNamed_86 : decode b_M_timesNamed 86 = .ok (.iaload, 1) := by decide +kernel
theorem d_M_timesNamed_87 : decode b_M_timesNamed 87 = .ok (.iconst 2, 1) := by decide +kernel
theorem d_M_timesNamed_88 : decode b_M_timesNamed 88 = .ok (.if_icmp .ne 26, 3) := by decide +kernel
theorem d_M_timesNamed_91 : decode b_M_timesNamed 91 = .ok (.aload_n 0, 1) := by decide +kernel
theorem d_M_timesNamed_92 : decode b_M_timesNamed 92 = .ok (.getfield 138, 3) := by decide +kernel
theorem d_M_timesNamed_95 : decode b_M_timesNamed 95 = .ok (.aload_n 0, 1) := by decide +kernel
theorem d_M_timesNamed_96 : decode b_M_timesNamed 96 = .ok (.getfield 153, 3) := by decide +kernel
theorem d_M_timesNamed_99 : decode b_M_timesNamed 99 = .ok (.iload 5, 2) := by decide +kernel
theorem d_M_timesNamed_101 : decode b_M_timesNamed 101 = .ok (.iaload, 1) := by decide +kernel
theorem d_M_timesNamed_102 : decode b_M_timesNamed 102 = .ok (.iaload, 1) := by decide +kernel
theorem d_M_timesNamed_103 : decode b_M_timesNamed 103 = .ok (.bipush 10, 2) := by decide +kernel
theorem d_M_timesNamed_105 : decode b_M_timesNamed 105 = .ok (.iload_n 2, 1) := by decide +kernel
theorem d_M_timesNamed_106 : decode b_M_timesNamed 106 = .ok (.iadd, 1) := by decide +kernel
theorem d_M_timesNamed_107 : decode b_M_timesNamed 107 = .ok (.if_icmp .ne 7, 3) := by decide +kernel
theorem d_M_timesNamed_110 : decode b_M_timesNamed 110 = .ok (.iconst 1, 1) := by decide +kernel
theorem d_M_timesNamed_111 : decode b_M_timesNamed 111 = .ok (.goto 4, 3) := by decide +kernel
theorem d_M_timesNamed_114 : decode b_M_timesNamed 114 = .ok (.iconst 0, 1) := by decide +kernel
theorem d_M_timesNamed_115 : decode b_M_timesNamed 115 = .ok (.iadd, 1) := by decide +kernel
theorem d_M_timesNamed_116 : decode b_M_timesNamed 116 = .ok (.istore_n 3, 1) := by decide +kernel
theorem d_M_timesNamed_117 : decode b_M_timesNamed 117 = .ok (.iinc 4 1, 3) := by decide +kernel
theorem d_M_timesNamed_120 : decode b_M_timesNamed 120 = .ok (.goto (-66), 3) := by decide +kernel
theorem d_M_timesNamed_123 : decode b_M_timesNamed 123 = .ok (.iload_n 3, 1) := by decide +kernel
theorem d_M_timesNamed_124 : decode b_M_timesNamed 124 = .ok (.ireturn, 1) := by decide +kernel
theorem d_M_checkShapes_0 : decode b_M_checkShapes 0 = .ok (.iconst 0, 1) := by decide +kernel
theorem d_M_checkShapes_1 : decode b_M_checkShapes 1 = .ok (.istore_n 1, 1) := by decide +kernel
theorem d_M_checkShapes_2 : decode b_M_checkShapes 2 = .ok (.iload_n 1, 1) := by decide +kernel
theorem d_M_checkShapes_3 : decode b_M_checkShapes 3 = .ok (.aload_n 0, 1) := by decide +kernel
theorem d_M_checkShapes_4 : decode b_M_checkShapes 4 = .ok (.getfield 330, 3) := by decide +kernel
theorem d_M_checkShapes_7 : decode b_M_checkShapes 7 = .ok (.if_icmp .ge 267, 3) := by decide +kernel
theorem d_M_checkShapes_10 : decode b_M_checkShapes 10 = .ok (.aload_n 0, 1) := by decide +kernel
theorem d_M_checkShapes_11 : decode b_M_checkShapes 11 = .ok (.getfield 29, 3) := by decide +kernel
theorem d_M_checkShapes_14 : decode b_M_checkShapes 14 = .ok (.aload_n 0, 1) := by decide +kernel
theorem d_M_checkShapes_15 : decode b_M_checkShapes 15 = .ok (.getfield 35, 3) := by decide +kernel
theorem d_M_checkShapes_18 : decode b_M_checkShapes 18 = .ok (.iload_n 1, 1) := by decide +kernel
theorem d_M_checkShapes_19 : decode b_M_checkShapes 19 = .ok (.iaload, 1) := by decide +kernel
theorem d_M_checkShapes_20 : decode b_M_checkShapes 20 = .ok (.iaload, 1) := by decide +kernel
theorem d_M_checkShapes_21 : decode b_M_checkShapes 21 = .ok (.istore_n 2, 1) := by decide +kernel
theorem d_M_checkShapes_22 : decode b_M_checkShapes 22 = .ok (.aload_n 0, 1) := by decide +kernel
theorem d_M_checkShapes_23 : decode b_M_checkShapes 23 = .ok (.iload_n 1, 1) := by decide +kernel
theorem d_M_checkShapes_24 : decode b_M_checkShapes 24 = .ok (.invokevirtual 439, 3) := by decide +kernel
theorem d_M_checkShapes_27 : decode b_M_checkShapes 27 = .ok (.iconst 1, 1) := by decide +kernel
theorem d_M_checkShapes_28 : decode b_M_checkShapes 28 = .ok (.iload_n 1, 1) := by decide +kernel
theorem d_M_checkShapes_29 : decode b_M_checkShapes 29 = .ok (.ishl, 1) := by decide +kernel
theorem d_M_checkShapes_30 : decode b_M_checkShapes 30 = .ok (.if_icmp .ne 7, 3) := by decide +kernel
theorem d_M_checkShapes_33 : decode b_M_checkShapes 33 = .ok (.iconst 1, 1) := by decide +kernel
theorem d_M_checkShapes_34 : decode b_M_checkShapes 34 = .ok (.goto 4, 3) := by decide +kernel
theorem d_M_checkShapes_37 : decode b_M_checkShapes 37 = .ok (.iconst 0, 1) := by decide +kernel
theorem d_M_checkShapes_38 : decode b_M_checkShapes 38 = .ok (.istore_n 3, 1) := by decide +kernel
theorem d_M_checkShapes_39 : decode b_M_checkShapes 39 = .ok (.iconst 0, 1) := by decide +kernel
theorem d_M_checkShapes_40 : decode b_M_checkShapes 40 = .ok (.istore 4, 2) := by decide +kernel
theorem d_M_checkShapes_42 : decode b_M_checkShapes 42 = .ok (.iload 4, 2) := by decide +kernel
theorem d_M_checkShapes_44 : decode b_M_checkShapes 44 = .ok (.aload_n 0, 1) := by decide +kernel
theorem d_M_checkShapes_45 : decode b_M_checkShapes 45 = .ok (.getfield 75, 3) := by decide +kernel
theorem d_M_checkShapes_48 : decode b_M_checkShapes 48 = .ok (.iload_n 1, 1) := by decide +kernel
theorem d_M_checkShapes_49 : decode b_M_checkShapes 49 = .ok (.iaload, 1) := by decide +kernel
theorem d_M_checkShapes_50 : decode b_M_checkShapes 50 = .ok (.if_icmp .ge 80, 3) := by decide +kernel
theorem d_M_checkShapes_53 : decode b_M_checkShapes 53 = .ok (.aload_n 0, 1) := by decide +kernel
theorem d_M_checkShapes_54 : decode b_M_checkShapes 54 = .ok (.getfield 72, 3) := by decide +kernel
theorem d_M_checkShapes_57 : decode b_M_checkShapes 57 = .ok (.iload_n 1, 1) := by decide +kernel
theorem d_M_checkShapes_58 : decode b_M_checkShapes 58 = .ok (.iaload, 1) := by decide +kernel
theorem d_M_checkShapes_59 : decode b_M_checkShapes 59 = .ok (.iload 4, 2) := by decide +kernel
theorem d_M_checkShapes_61 : decode b_M_checkShapes 61 = .ok (.iadd, 1) := by decide +kernel
theorem d_M_checkShapes_62 : decode b_M_checkShapes 62 = .ok (.istore 5, 2) := by decide +kernel
theorem d_M_checkShapes_64 : decode b_M_checkShapes 64 = .ok (.aload_n 0, 1) := by decide +kernel
theorem d_M_checkShapes_65 : decode b_M_checkShapes 65 = .ok (.getfield 87, 3) := by decide +kernel
theorem d_M_checkShapes_68 : decode b_M_checkShapes 68 = .ok (.iload 5, 2) := by decide +kernel
theorem d_M_checkShapes_70 : decode b_M_checkShapes 70 = .ok (.iaload, 1) := by decide +kernel
theorem d_M_checkShapes_71 : decode b_M_checkShapes 71 = .ok (.aload_n 0, 1) := by decide +kernel
theorem d_M_checkShapes_72 : decode b_M_checkShapes 72 = .ok (.getfield 38, 3) := by decide +kernel
theorem d_M_checkShapes_75 : decode b_M_checkShapes 75 = .ok (.iload_n 1, 1) := by decide +kernel
theorem d_M_checkShapes_76 : decode b_M_checkShapes 76 = .ok (.iaload, 1) := by decide +kernel
theorem d_M_checkShapes_77 : decode b_M_checkShapes 77 = .ok (.if_icmp .eq 15, 3) := by decide +kernel
theorem d_M_checkShapes_80 : decode b_M_checkShapes 80 = .ok (.aload_n 0, 1) := by decide +kernel
theorem d_M_checkShapes_81 : decode b_M_checkShapes 81 = .ok (.iconst 3, 1) := by decide +kernel
theorem d_M_checkShapes_82 : decode b_M_checkShapes 82 = .ok (.aload_n 0, 1) := by decide +kernel
theorem d_M_checkShapes_83 : decode b_M_checkShapes 83 = .ok (.getfield 81, 3) := by decide +kernel
theorem d_M_checkShapes_86 : decode b_M_checkShapes 86 = .ok (.iload 5, 2) := by decide +kernel
theorem d_M_checkShapes_88 : decode b_M_checkShapes 88 = .ok (.iaload, 1) := by decide +kernel
theorem d_M_checkShapes_89 : decode b_M_checkShapes 89 = .ok (.invokevirtual 313, 3) := by decide +kernel
theorem d_M_checkShapes_92 : decode b_M_checkShapes 92 = .ok (.aload_n 0, 1) := by decide +kernel
theorem d_M_checkShapes_93 : decode b_M_checkShapes 93 = .ok (.iload_n 1, 1) := by decide +kernel
theorem d_M_checkShapes_94 : decode b_M_checkShapes 94 = .ok (.invokevirtual 442, 3) := by decide +kernel
theorem d_M_checkShapes_97 : decode b_M_checkShapes 97 = .ok (.ifCond .eq 14, 3) := by decide +kernel
theorem d_M_checkShapes_100 : decode b_M_checkShapes 100 = .ok (.aload_n 0, 1) := by decide +kernel
theorem d_M_checkShapes_101 : decode b_M_checkShapes 101 = .ok (.iload 5, 2) := by decide +kernel
theorem d_M_checkShapes_103 : decode b_M_checkShapes 103 = .ok (.aload_n 0, 1) := by decide +kernel
theorem d_M_checkShapes_104 : decode b_M_checkShapes 104 = .ok (.iload_n 1, 1) := by decide +kernel
theorem d_M_checkShapes_105 : decode b_M_checkShapes 105 = .ok (.invokevirtual 439, 3) := by decide +kernel
theorem d_M_checkShapes_108 : decode b_M_checkShapes 108 = .ok (.invokevirtual 445, 3) := by decide +kernel
theorem d_M_checkShapes_111 : decode b_M_checkShapes 111 = .ok (.aload_n 0, 1) := by decide +kernel
theorem d_M_checkShapes_112 : decode b_M_checkShapes 112 = .ok (.iload 5, 2) := by decide +kernel
theorem d_M_checkShapes_114 : decode b_M_checkShapes 114 = .ok (.iload_n 1, 1) := by decide +kernel
theorem d_M_checkShapes_115 : decode b_M_checkShapes 115 = .ok (.invokevirtual 448, 3) := by decide +kernel
theorem d_M_checkShapes_118 : decode b_M_checkShapes 118 = .ok (.iconst 1, 1) := by decide +kernel
theorem d_M_checkShapes_119 : decode b_M_checkShapes 119 = .ok (.if_icmp .le 5, 3) := by decide +kernel
theorem d_M_checkShapes_122 : decode b_M_checkShapes 122 = .ok (.iconst 0, 1) := by decide +kernel
theorem d_M_checkShapes_123 : decode b_M_checkShapes 123 = .ok (.istore_n 3, 1) := by decide +kernel
theorem d_M_checkShapes_124 : decode b_M_checkShapes 124 = .ok (.iinc 4 1, 3) := by decide +kernel
theorem d_M_checkShapes_127 : decode b_M_checkShapes 127 = .ok (.goto (-85), 3) := by decide +kernel
theorem d_M_checkShapes_130 : decode b_M_checkShapes 130 = .ok (.aload_n 0, 1) := by decide +kernel
theorem d_M_checkShapes_131 : decode b_M_checkShapes 131 = .ok (.getfield 65, 3) := by decide +kernel
theorem d_M_checkShapes_134 : decode b_M_checkShapes 134 = .ok (.iload_n 1, 1) := by decide +kernel
theorem d_M_checkShapes_135 : decode b_M_checkShapes 135 = .ok (.baload, 1) := by decide +kernel
theorem d_M_checkShapes_136 : decode b_M_checkShapes 136 = .ok (.ifCond .eq 18, 3) := by decide +kernel
theorem d_M_checkShapes_139 : decode b_M_checkShapes 139 = .ok (.aload_n 0, 1) := by decide +kernel
theorem d_M_checkShapes_140 : decode b_M_checkShapes 140 = .ok (.getfield 69, 3) := by decide +kernel
theorem d_M_checkShapes_143 : decode b_M_checkShapes 143 = .ok (.iload_n 1, 1) := by decide +kernel
theorem d_M_checkShapes_144 : decode b_M_checkShapes 144 = .ok (.baload, 1) := by decide +kernel
theorem d_M_checkShapes_145 : decode b_M_checkShapes 145 = .ok (.ifCond .eq 9, 3) := by decide +kernel
theorem d_M_checkShapes_148 : decode b_M_checkShapes 148 = .ok (.aload_n 0, 1) := by decide +kernel
theorem d_M_checkShapes_149 : decode b_M_checkShapes 149 = .ok (.iconst 4, 1) := by decide +kernel
theorem d_M_checkShapes_150 : decode b_M_checkShapes 150 = .ok (.iload_n 2, 1) := by decide +kernel
theorem d_M_checkShapes_151 : decode b_M_checkShapes 151 = .ok (.invokevirtual 313, 3) := by decide +kernel
theorem d_M_checkShapes_154 : decode b_M_checkShapes 154 = .ok (.aload_n 0, 1) := by decide +kernel
theorem d_M_checkShapes_155 : decode b_M_checkShapes 155 = .ok (.getfield 44, 3) := by decide +kernel
theorem d_M_checkShapes_158 : decode b_M_checkShapes 158 = .ok (.iload_n 1, 1) := by decide +kernel
theorem d_M_checkShapes_159 : decode b_M_checkShapes 159 = .ok (.iaload, 1) := by decide +kernel
theorem d_M_checkShapes_160 : decode b_M_checkShapes 160 = .ok (.ifCond .gt 13, 3) := by decide +kernel
theorem d_M_checkShapes_163 : decode b_M_checkShapes 163 = .ok (.aload_n 0, 1) := by decide +kernel
theorem d_M_checkShapes_164 : decode b_M_checkShapes 164 = .ok (.getfield 53, 3) := by decide +kernel
theorem d_M_checkShapes_167 : decode b_M_checkShapes 167 = .ok (.iload_n 1, 1) := by decide +kernel
theorem d_M_checkShapes_168 : decode b_M_checkShapes 168 = .ok (.iaload, 1) := by decide +kernel
theorem d_M_checkShapes_169 : decode b_M_checkShapes 169 = .ok (.iconst (-1), 1) := by decide +kernel
theorem d_M_checkShapes_170 : decode b_M_checkShapes 170 = .ok (.if_icmp .eq 7, 3) := by decide +kernel
theorem d_M_checkShapes_173 : decode b_M_checkShapes 173 = .ok (.iconst 1, 1) := by decide +kernel
theorem d_M_checkShapes_174 : decode b_M_checkShapes 174 = .ok (.goto 4, 3) := by decide +kernel
theorem d_M_checkShapes_177 : decode b_M_checkShapes 177 = .ok (.iconst 0, 1) := by decide +kernel
theorem d_M_checkShapes_178 : decode b_M_checkShapes 178 = .ok (.istore 4, 2) := by decide +kernel
theorem d_M_checkShapes_180 : decode b_M_checkShapes 180 = .ok (.aload_n 0, 1) := by decide +kernel
theorem d_M_checkShapes_181 : decode b_M_checkShapes 181 = .ok (.iload_n 1, 1) := by decide +kernel
theorem d_M_checkShapes_182 : decode b_M_checkShapes 182 = .ok (.invokevirtual 442, 3) := by decide +kernel
theorem d_M_checkShapes_185 : decode b_M_checkShapes 185 = .ok (.ifCond .eq 30, 3) := by decide +kernel
theorem d_M_checkShapes_188 : decode b_M_checkShapes 188 = .ok (.aload_n 0, 1) := by decide +kernel
theorem d_M_checkShapes_189 : decode b_M_checkShapes 189 = .ok (.aload_n 0, 1) := by decide +kernel
theorem d_M_checkShapes_190 : decode b_M_checkShapes 190 = .ok (.getfield 72, 3) := by decide +kernel
theorem d_M_checkShapes_193 : decode b_M_checkShapes 193 = .ok (.iload_n 1, 1) := by decide +kernel
theorem d_M_checkShapes_194 : decode b_M_checkShapes 194 = .ok (.iaload, 1) := by decide +kernel
theorem d_M_checkShapes_195 : decode b_M_checkShapes 195 = .ok (.iconst 1, 1) := by decide +kernel
theorem d_M_checkShapes_196 : decode b_M_checkShapes 196 = .ok (.invokevirtual 432, 3) := by decide +kernel
theorem d_M_checkShapes_199 : decode b_M_checkShapes 199 = .ok (.aload_n 0, 1) := by decide +kernel
theorem d_M_checkShapes_200 : decode b_M_checkShapes 200 = .ok (.iload_n 1, 1) := by decide +kernel
theorem d_M_checkShapes_201 : decode b_M_checkShapes 201 = .ok (.invokevirtual 439, 3) := by decide +kernel
theorem d_M_checkShapes_204 : decode b_M_checkShapes 204 = .ok (.iand, 1) := by decide +kernel
theorem d_M_checkShapes_205 : decode b_M_checkShapes 205 = .ok (.ifCond .eq 10, 3) := by decide +kernel
theorem d_M_checkShapes_208 : decode b_M_checkShapes 208 = .ok (.aload_n 0, 1) := by decide +kernel
theorem d_M_checkShapes_209 : decode b_M_checkShapes 209 = .ok (.bipush 6, 2) := by decide +kernel
theorem d_M_checkShapes_211 : decode b_M_checkShapes 211 = .ok (.iload_n 2, 1) := by decide +kernel
theorem d_M_checkShapes_212 : decode b_M_checkShapes 212 = .ok (.invokevirtual 313, 3) := by decide +kernel
theorem d_M_checkShapes_215 : decode b_M_checkShapes 215 = .ok (.aload_n 0, 1) := by decide +kernel
theorem d_M_checkShapes_216 : decode b_M_checkShapes 216 = .ok (.iload_n 1, 1) := by decide +kernel
theorem d_M_checkShapes_217 : decode b_M_checkShapes 217 = .ok (.invokevirtual 442, 3) := by decide +kernel
theorem d_M_checkShapes_220 : decode b_M_checkShapes 220 = .ok (.ifCond .eq 28, 3) := by decide +kernel
theorem d_M_checkShapes_223 : decode b_M_checkShapes 223 = .ok (.iload_n 3, 1) := by decide +kernel
theorem d_M_checkShapes_224 : decode b_M_checkShapes 224 = .ok (.ifCond .ne 24, 3) := by decide +kernel
theorem d_M_checkShapes_227 : decode b_M_checkShapes 227 = .ok (.aload_n 0, 1) := by decide +kernel
theorem d_M_checkShapes_228 : decode b_M_checkShapes 228 = .ok (.getfield 69, 3) := by decide +kernel
theorem d_M_checkShapes_231 : decode b_M_checkShapes 231 = .ok (.iload_n 1, 1) := by decide +kernel
theorem d_M_checkShapes_232 : decode b_M_checkShapes 232 = .ok (.baload, 1) := by decide +kernel
theorem d_M_checkShapes_233 : decode b_M_checkShapes 233 = .ok (.ifCond .ne 8, 3) := by decide +kernel
theorem d_M_checkShapes_236 : decode b_M_checkShapes 236 = .ok (.iload 4, 2) := by decide +kernel
theorem d_M_checkShapes_238 : decode b_M_checkShapes 238 = .ok (.ifCond .eq 10, 3) := by decide +kernel
theorem d_M_checkShapes_241 : decode b_M_checkShapes 241 = .ok (.aload_n 0, 1) := by decide +kernel
theorem d_M_checkShapes_242 : decode b_M_checkShapes 242 = .ok (.bipush 7, 2) := by decide +kernel
theorem d_M_checkShapes_244 : decode b_M_checkShapes 244 = .ok (.iload_n 2, 1) := by decide +kernel
theorem d_M_checkShapes_245 : decode b_M_checkShapes 245 = .ok (.invokevirtual 313, 3) := by decide +kernel
theorem d_M_checkShapes_248 : decode b_M_checkShapes 248 = .ok (.aload_n 0, 1) := by decide +kernel
theorem d_M_checkShapes_249 : decode b_M_checkShapes 249 = .ok (.iload_n 1, 1) := by decide +kernel
theorem d_M_checkShapes_250 : decode b_M_checkShapes 250 = .ok (.invokevirtual 442, 3) := by decide +kernel
theorem d_M_checkShapes_253 : decode b_M_checkShapes 253 = .ok (.ifCond .ne 15, 3) := by decide +kernel
theorem d_M_checkShapes_256 : decode b_M_checkShapes 256 = .ok (.iload 4, 2) := by decide +kernel
theorem d_M_checkShapes_258 : decode b_M_checkShapes 258 = .ok (.ifCond .eq 10, 3) := by decide +kernel
theorem d_M_checkShapes_261 : decode b_M_checkShapes 261 = .ok (.aload_n 0, 1) := by decide +kernel
theorem d_M_checkShapes_262 : decode b_M_checkShapes 262 = .ok (.bipush 8, 2) := by decide +kernel
theorem d_M_checkShapes_264 : decode b_M_checkShapes 264 = .ok (.iload_n 2, 1) := by decide +kernel
theorem d_M_checkShapes_265 : decode b_M_checkShapes 265 = .ok (.invokevirtual 313, 3) := by decide +kernel
theorem d_M_checkShapes_268 : decode b_M_checkShapes 268 = .ok (.iinc 1 1, 3) := by decide +kernel
theorem d_M_checkShapes_271 : decode b_M_checkShapes 271 = .ok (.goto (-269), 3) := by decide +kernel
theorem d_M_checkShapes_274 : decode b_M_checkShapes 274 = .ok (.return_, 1) := by decide +kernel
theorem d_M_prepare_0 : decode b_M_prepare 0 = .ok (.aload_n 0, 1) := by decide +kernel
theorem d_M_prepare_1 : decode b_M_prepare 1 = .ok (.iconst 0, 1) := by decide +kernel
theorem d_M_prepare_2 : decode b_M_prepare 2 = .ok (.putfield 297, 3) := by decide +kernel
theorem d_M_prepare_5 : decode b_M_prepare 5 = .ok (.aload_n 0, 1) := by decide +kernel
theorem d_M_prepare_6 : decode b_M_prepare 6 = .ok (.iconst 0, 1) := by decide +kernel
theorem d_M_prepare_7 : decode b_M_prepare 7 = .ok (.putfield 300, 3) := by decide +kernel
theorem d_M_prepare_10 : decode b_M_prepare 10 = .ok (.aload_n 0, 1) := by decide +kernel
theorem d_M_prepare_11 : decode b_M_prepare 11 = .ok (.iconst 0, 1) := by decide +kernel
theorem d_M_prepare_12 : decode b_M_prepare 12 = .ok (.putfield 451, 3) := by decide +kernel
theorem d_M_prepare_15 : decode b_M_prepare 15 = .ok (.aload_n 0, 1) := by decide +kernel
theorem d_M_prepare_16 : decode b_M_prepare 16 = .ok (.iconst 0, 1) := by decide +kernel
theorem d_M_prepare_17 : decode b_M_prepare 17 = .ok (.putfield 454, 3) := by decide +kernel
theorem d_M_prepare_20 : decode b_M_prepare 20 = .ok (.aload_n 0, 1) := by decide +kernel
theorem d_M_prepare_21 : decode b_M_prepare 21 = .ok (.iconst 0, 1) := by decide +kernel
theorem d_M_prepare_22 : decode b_M_prepare 22 = .ok (.putfield 330, 3) := by decide +kernel
theorem d_M_prepare_25 : decode b_M_prepare 25 = .ok (.aload_n 0, 1) := by decide +kernel
theorem d_M_prepare_26 : decode b_M_prepare 26 = .ok (.iconst 0, 1) := by decide +kernel
theorem d_M_prepare_27 : decode b_M_prepare 27 = .ok (.putfield 336, 3) := by decide +kernel
theorem d_M_prepare_30 : decode b_M_prepare 30 = .ok (.aload_n 0, 1) := by decide +kernel
theorem d_M_prepare_31 : decode b_M_prepare 31 = .ok (.iconst 0, 1) := by decide +kernel
theorem d_M_prepare_32 : decode b_M_prepare 32 = .ok (.putfield 352, 3) := by decide +kernel
theorem d_M_prepare_35 : decode b_M_prepare 35 = .ok (.aload_n 0, 1) := by decide +kernel
theorem d_M_prepare_36 : decode b_M_prepare 36 = .ok (.iconst 0, 1) := by decide +kernel
theorem d_M_prepare_37 : decode b_M_prepare 37 = .ok (.putfield 380, 3) := by decide +kernel
theorem d_M_prepare_40 : decode b_M_prepare 40 = .ok (.aload_n 0, 1) := by decide +kernel
theorem d_M_prepare_41 : decode b_M_prepare 41 = .ok (.iconst 0, 1) := by decide +kernel
theorem d_M_prepare_42 : decode b_M_prepare 42 = .ok (.putfield 383, 3) := by decide +kernel
theorem d_M_prepare_45 : decode b_M_prepare 45 = .ok (.aload_n 0, 1) := by decide +kernel
theorem d_M_prepare_46 : decode b_M_prepare 46 = .ok (.iconst 0, 1) := by decide +kernel
theorem d_M_prepare_47 : decode b_M_prepare 47 = .ok (.putfield 358, 3) := by decide +kernel
theorem d_M_prepare_50 : decode b_M_prepare 50 = .ok (.aload_n 0, 1) := by decide +kernel
theorem d_M_prepare_51 : decode b_M_prepare 51 = .ok (.iconst 0, 1) := by decide +kernel
theorem d_M_prepare_52 : decode b_M_prepare 52 = .ok (.putfield 374, 3) := by decide +kernel
theorem d_M_prepare_55 : decode b_M_prepare 55 = .ok (.aload_n 0, 1) := by decide +kernel
theorem d_M_prepare_56 : decode b_M_prepare 56 = .ok (.iconst 0, 1) := by decide +kernel
theorem d_M_prepare_57 : decode b_M_prepare 57 = .ok (.putfield 392, 3) := by decide +kernel
theorem d_M_prepare_60 : decode b_M_prepare 60 = .ok (.aload_n 0, 1) := by decide +kernel
theorem d_M_prepare_61 : decode b_M_prepare 61 = .ok (.iconst 0, 1) := by decide +kernel
theorem d_M_prepare_62 : decode b_M_prepare 62 = .ok (.putfield 307, 3) := by decide +kernel
theorem d_M_prepare_65 : decode b_M_prepare 65 = .ok (.aload_n 0, 1) := by decide +kernel
theorem d_M_prepare_66 : decode b_M_prepare 66 = .ok (.invokevirtual 457, 3) := by decide +kernel
theorem d_M_prepare_69 : decode b_M_prepare 69 = .ok (.aload_n 0, 1) := by decide +kernel
theorem d_M_prepare_70 : decode b_M_prepare 70 = .ok (.iconst 0, 1) := by decide +kernel
theorem d_M_prepare_71 : decode b_M_prepare 71 = .ok (.putfield 259, 3) := by decide +kernel
theorem d_M_prepare_74 : decode b_M_prepare 74 = .ok (.aload_n 0, 1) := by decide +kernel
theorem d_M_prepare_75 : decode b_M_prepare 75 = .ok (.invokevirtual 460, 3) := by decide +kernel
theorem d_M_prepare_78 : decode b_M_prepare 78 = .ok (.aload_n 0, 1) := by decide +kernel
theorem d_M_prepare_79 : decode b_M_prepare 79 = .ok (.invokevirtual 303, 3) := by decide +kernel
theorem d_M_prepare_82 : decode b_M_prepare 82 = .ok (.ifCond .ne 55, 3) := by decide +kernel
theorem d_M_prepare_85 : decode b_M_prepare 85 = .ok (.iconst 0, 1) := by decide +kernel
theorem d_M_prepare_86 : decode b_M_prepare 86 = .ok (.istore_n 1, 1) := by decide +kernel
theorem d_M_prepare_87 : decode b_M_prepare 87 = .ok (.iload_n 1, 1) := by decide +kernel
theorem d_M_prepare_88 : decode b_M_prepare 88 = .ok (.aload_n 0, 1) := by decide +kernel
theorem d_M_prepare_89 : decode b_M_prepare 89 = .ok (.getfield 330, 3) := by decide +kernel
theorem d_M_prepare_92 : decode b_M_prepare 92 = .ok (.if_icmp .ge 14, 3) := by decide +kernel
theorem d_M_prepare_95 : decode b_M_prepare 95 = .ok (.aload_n 0, 1) := by decide +kernel
theorem d_M_prepare_96 : decode b_M_prepare 96 = .ok (.iload_n 1, 1) := by decide +kernel
theorem d_M_prepare_97 : decode b_M_prepare 97 = .ok (.invokevirtual 463, 3) := by decide +kernel
theorem d_M_prepare_100 : decode b_M_prepare 100 = .ok (.iinc 1 1, 3) := by decide +kernel
theorem d_M_prepare_103 : decode b_M_prepare 103 = .ok (.goto (-16), 3) := by decide +kernel
theorem d_M_prepare_106 : decode b_M_prepare 106 = .ok (.iconst 0, 1) := by decide +kernel
theorem d_M_prepare_107 : decode b_M_prepare 107 = .ok (.istore_n 1, 1) := by decide +kernel
theorem d_M_prepare_108 : decode b_M_prepare 108 = .ok (.iload_n 1, 1) := by decide +kernel
theorem d_M_prepare_109 : decode b_M_prepare 109 = .ok (.aload_n 0, 1) := by decide +kernel
theorem d_M_prepare_110 : decode b_M_prepare 110 = .ok (.getfield 336, 3) := by decide +kernel
theorem d_M_prepare_113 : decode b_M_prepare 113 = .ok (.if_icmp .ge 14, 3) := by decide +kernel
theorem d_M_prepare_116 : decode b_M_prepare 116 = .ok (.aload_n 0, 1) := by decide +kernel
theorem d_M_prepare_117 : decode b_M_prepare 117 = .ok (.iload_n 1, 1) := by decide +kernel
theorem d_M_prepare_118 : decode b_M_prepare 118 = .ok (.invokevirtual 466, 3) := by decide +kernel
theorem d_M_prepare_121 : decode b_M_prepare 121 = .ok (.iinc 1 1, 3) := by decide +kernel
theorem d_M_prepare_124 : decode b_M_prepare 124 = .ok (.goto (-16), 3) := by decide +kernel
theorem d_M_prepare_127 : decode b_M_prepare 127 = .ok (.aload_n 0, 1) := by decide +kernel
theorem d_M_prepare_128 : decode b_M_prepare 128 = .ok (.aload_n 0, 1) := by decide +kernel
theorem d_M_prepare_129 : decode b_M_prepare 129 = .ok (.getfield 336, 3) := by decide +kernel
theorem d_M_prepare_132 : decode b_M_prepare 132 = .ok (.iconst 1, 1) := by decide +kernel
theorem d_M_prepare_133 : decode b_M_prepare 133 = .ok (.isub, 1) := by decide +kernel
theorem d_M_prepare_134 : decode b_M_prepare 134 = .ok (.invokevirtual 469, 3) := by decide +kernel
theorem d_M_prepare_137 : decode b_M_prepare 137 = .ok (.aload_n 0, 1) := by decide +kernel
theorem d_M_prepare_138 : decode b_M_prepare 138 = .ok (.getfield 297, 3) := by decide +kernel
theorem d_M_prepare_141 : decode b_M_prepare 141 = .ok (.ifCond .ne 11, 3) := by decide +kernel
theorem d_M_prepare_144 : decode b_M_prepare 144 = .ok (.aload_n 0, 1) := by decide +kernel
theorem d_M_prepare_145 : decode b_M_prepare 145 = .ok (.invokevirtual 472, 3) := by decide +kernel
theorem d_M_prepare_148 : decode b_M_prepare 148 = .ok (.aload_n 0, 1) := by decide +kernel
theorem d_M_prepare_149 : decode b_M_prepare 149 = .ok (.invokevirtual 475, 3) := by decide +kernel
theorem d_M_prepare_152 : decode b_M_prepare 152 = .ok (.aload_n 0, 1) := by decide +kernel
theorem d_M_prepare_153 : decode b_M_prepare 153 = .ok (.aload_n 0, 1) := by decide +kernel
theorem d_M_prepare_154 : decode b_M_prepare 154 = .ok (.getfield 297, 3) := by decide +kernel
theorem d_M_prepare_157 : decode b_M_prepare 157 = .ok (.ifCond .ne 7, 3) := by decide +kernel
theorem d_M_prepare_160 : decode b_M_prepare 160 = .ok (.iconst 0, 1) := by decide +kernel
theorem d_M_prepare_161 : decode b_M_prepare 161 = .ok (.goto 15, 3) := by decide +kernel
theorem d_M_prepare_164 : decode b_M_prepare 164 = .ok (.aload_n 0, 1) := by decide +kernel
theorem d_M_prepare_165 : decode b_M_prepare 165 = .ok (.getfield 297, 3) := by decide +kernel
theorem d_M_prepare_168 : decode b_M_prepare 168 = .ok (.bipush 10, 2) := by decide +kernel
theorem d_M_prepare_170 : decode b_M_prepare 170 = .ok (.aload_n 0, 1) := by decide +kernel
theorem d_M_prepare_171 : decode b_M_prepare 171 = .ok (.getfield 300, 3) := by decide +kernel
theorem d_M_prepare_174 : decode b_M_prepare 174 = .ok (.imul, 1) := by decide +kernel
theorem d_M_prepare_175 : decode b_M_prepare 175 = .ok (.iadd, 1) := by decide +kernel
theorem d_M_prepare_176 : decode b_M_prepare 176 = .ok (.putfield 478, 3) := by decide +kernel
theorem d_M_prepare_179 : decode b_M_prepare 179 = .ok (.aload_n 0, 1) := by decide +kernel
theorem d_M_prepare_180 : decode b_M_prepare 180 = .ok (.aload_n 0, 1) := by decide +kernel
theorem d_M_prepare_181 : decode b_M_prepare 181 = .ok (.getfield 297, 3) := by decide +kernel
theorem d_M_prepare_184 : decode b_M_prepare 184 = .ok (.ifCond .ne 7, 3) := by decide +kernel
theorem d_M_prepare_187 : decode b_M_prepare 187 = .ok (.iconst 0, 1) := by decide +kernel
theorem d_M_prepare_188 : decode b_M_prepare 188 = .ok (.goto 4, 3) := by decide +kernel
theorem d_M_prepare_191 : decode b_M_prepare 191 = .ok (.iconst 1, 1) := by decide +kernel
theorem d_M_prepare_192 : decode b_M_prepare 192 = .ok (.putfield 238, 3) := by decide +kernel
theorem d_M_prepare_195 : decode b_M_prepare 195 = .ok (.aload_n 0, 1) := by decide +kernel
theorem d_M_prepare_196 : decode b_M_prepare 196 = .ok (.aload_n 0, 1) := by decide +kernel
theorem d_M_prepare_197 : decode b_M_prepare 197 = .ok (.getfield 238, 3) := by decide +kernel
theorem d_M_prepare_200 : decode b_M_prepare 200 = .ok (.ifCond .ne 7, 3) := by decide +kernel
theorem d_M_prepare_203 : decode b_M_prepare 203 = .ok (.iconst 1, 1) := by decide +kernel
theorem d_M_prepare_204 : decode b_M_prepare 204 = .ok (.goto 4, 3) := by decide +kernel
theorem d_M_prepare_207 : decode b_M_prepare 207 = .ok (.iconst 0, 1) := by decide +kernel
theorem d_M_prepare_208 : decode b_M_prepare 208 = .ok (.putfield 451, 3) := by decide +kernel
theorem d_M_prepare_211 : decode b_M_prepare 211 = .ok (.aload_n 0, 1) := by decide +kernel
theorem d_M_prepare_212 : decode b_M_prepare 212 = .ok (.getfield 451, 3) := by decide +kernel
theorem d_M_prepare_215 : decode b_M_prepare 215 = .ok (.ifCond .eq 10, 3) := by decide +kernel
theorem d_M_prepare_218 : decode b_M_prepare 218 = .ok (.aload_n 0, 1) := by decide +kernel
theorem d_M_prepare_219 : decode b_M_prepare 219 = .ok (.getfield 330, 3) := by decide +kernel
theorem d_M_prepare_222 : decode b_M_prepare 222 = .ok (.goto 4, 3) := by decide +kernel
theorem d_M_prepare_225 : decode b_M_prepare 225 = .ok (.iconst 0, 1) := by decide +kernel
theorem d_M_prepare_226 : decode b_M_prepare 226 = .ok (.ireturn, 1) := by decide +kernel
theorem d_M_fault_0 : decode b_M_fault 0 = .ok (.aload_n 0, 1) := by decide +kernel
theorem d_M_fault_1 : decode b_M_fault 1 = .ok (.iconst 0, 1) := by decide +kernel
theorem d_M_fault_2 : decode b_M_fault 2 = .ok (.putfield 238, 3) := by decide +kernel
theorem d_M_fault_5 : decode b_M_fault 5 = .ok (.aload_n 0, 1) := by decide +kernel
theorem d_M_fault_6 : decode b_M_fault 6 = .ok (.getfield 478, 3) := by decide +kernel
theorem d_M_fault_9 : decode b_M_fault 9 = .ok (.ireturn, 1) := by decide +kernel
theorem d_M_part_0 : decode b_M_part 0 = .ok (.aload_n 0, 1) := by decide +kernel
theorem d_M_part_1 : decode b_M_part 1 = .ok (.aload_n 0, 1) := by decide +kernel
theorem d_M_part_2 : decode b_M_part 2 = .ok (.getfield 451, 3) := by decide +kernel
theorem d_M_part_5 : decode b_M_part 5 = .ok (.ifCond .eq 15, 3) := by decide +kernel
theorem d_M_part_8 : decode b_M_part 8 = .ok (.iload_n 1, 1) := by decide +kernel
theorem d_M_part_9 : decode b_M_part 9 = .ok (.ifCond .lt 11, 3) := by decide +kernel
theorem d_M_part_12 : decode b_M_part 12 = .ok (.iload_n 1, 1) := by decide +kernel
theorem d_M_part_13 : decode b_M_part 13 = .ok (.aload_n 0, 1) := by decide +kernel
theorem d_M_part_14 : decode b_M_part 14 = .ok (.getfield 330, 3) := by decide +kernel
theorem d_M_part_17 : decode b_M_part 17 = .ok (.if_icmp .lt 7, 3) := by decide +kernel
theorem d_M_part_20 : decode b_M_part 20 = .ok (.iconst 1, 1) := by decide +kernel
theorem d_M_part_21 : decode b_M_part 21 = .ok (.goto 17, 3) := by decide +kernel
theorem d_M_part_24 : decode b_M_part 24 = .ok (.iload_n 2, 1) := by decide +kernel
theorem d_M_part_25 : decode b_M_part 25 = .ok (.ifCond .lt 8, 3) := by decide +kernel
theorem d_M_part_28 : decode b_M_part 28 = .ok (.iload_n 2, 1) := by decide +kernel
theorem d_M_part_29 : decode b_M_part 29 = .ok (.iconst 2, 1) := by decide +kernel
theorem d_M_part_30 : decode b_M_part 30 = .ok (.if_icmp .le 7, 3) := by decide +kernel
theorem d_M_part_33 : decode b_M_part 33 = .ok (.iconst 2, 1) := by decide +kernel
theorem d_M_part_34 : decode b_M_part 34 = .ok (.goto 4, 3) := by decide +kernel
theorem d_M_part_37 : decode b_M_part 37 = .ok (.iconst 0, 1) := by decide +kernel
theorem d_M_part_38 : decode b_M_part 38 = .ok (.putfield 238, 3) := by decide +kernel
theorem d_M_part_41 : decode b_M_part 41 = .ok (.aload_n 0, 1) := by decide +kernel
theorem d_M_part_42 : decode b_M_part 42 = .ok (.getfield 238, 3) := by decide +kernel
theorem d_M_part_45 : decode b_M_part 45 = .ok (.ifCond .le 5, 3) := by decide +kernel
theorem d_M_part_48 : decode b_M_part 48 = .ok (.iconst 0, 1) := by decide +kernel
theorem d_M_part_49 : decode b_M_part 49 = .ok (.ireturn, 1) := by decide +kernel
theorem d_M_part_50 : decode b_M_part 50 = .ok (.iload_n 2, 1) := by decide +kernel
theorem d_M_part_51 : decode b_M_part 51 = .ok (.ifCond .ne 10, 3) := by decide +kernel
theorem d_M_part_54 : decode b_M_part 54 = .ok (.aload_n 0, 1) := by decide +kernel
theorem d_M_part_55 : decode b_M_part 55 = .ok (.getfield 177, 3) := by decide +kernel
theorem d_M_part_58 : decode b_M_part 58 = .ok (.iload_n 1, 1) := by decide +kernel
theorem d_M_part_59 : decode b_M_part 59 = .ok (.iaload, 1) := by decide +kernel
theorem d_M_part_60 : decode b_M_part 60 = .ok (.ireturn, 1) := by decide +kernel
theorem d_M_part_61 : decode b_M_part 61 = .ok (.iload_n 2, 1) := by decide +kernel
theorem d_M_part_62 : decode b_M_part 62 = .ok (.iconst 1, 1) := by decide +kernel
theorem d_M_part_63 : decode b_M_part 63 = .ok (.if_icmp .ne 19, 3) := by decide +kernel
theorem d_M_part_66 : decode b_M_part 66 = .ok (.aload_n 0, 1) := by decide +kernel
theorem d_M_part_67 : decode b_M_part 67 = .ok (.iload_n 1, 1) := by decide +kernel
theorem d_M_part_68 : decode b_M_part 68 = .ok (.invokevirtual 442, 3) := by decide +kernel
theorem d_M_part_71 : decode b_M_part 71 = .ok (.ifCond .eq 7, 3) := by decide +kernel
theorem d_M_part_74 : decode b_M_part 74 = .ok (.iconst 1, 1) := by decide +kernel
theorem d_M_part_75 : decode b_M_part 75 = .ok (.goto 29, 3) := by decide +kernel
theorem d_M_part_78 : decode b_M_part 78 = .ok (.iconst 0, 1) := by decide +kernel
theorem d_M_part_79 : decode b_M_part 79 = .ok (.goto 25, 3) := by decide +kernel
theorem d_M_part_82 : decode b_M_part 82 = .ok (.aload_n 0, 1) := by decide +kernel
theorem d_M_part_83 : decode b_M_part 83 = .ok (.getfield 38, 3) := by decide +kernel
theorem d_M_part_86 : decode b_M_part 86 = .ok (.iload_n 1, 1) := by decide +kernel
theorem d_M_part_87 : decode b_M_part 87 = .ok (.iaload, 1) := by decide +kernel
theorem d_M_part_88 : decode b_M_part 88 = .ok (.aload_n 0, 1) := by decide +kernel
theorem d_M_part_89 : decode b_M_part 89 = .ok (.getfield 53, 3) := by decide +kernel
theorem d_M_part_92 : decode b_M_part 92 = .ok (.iload_n 1, 1) := by decide +kernel
theorem d_M_part_93 : decode b_M_part 93 = .ok (.iaload, 1) := by decide +kernel
theorem d_M_part_94 : decode b_M_part 94 = .ok (.iconst (-1), 1) := by decide +kernel
theorem d_M_part_95 : decode b_M_part 95 = .ok (.if_icmp .eq 7, 3) := by decide +kernel
theorem d_M_part_98 : decode b_M_part 98 = .ok (.iconst 1, 1) := by decide +kernel
theorem d_M_part_99 : decode b_M_part 99 = .ok (.goto 4, 3) := by decide +kernel
theorem d_M_part_102 : decode b_M_part 102 = .ok (.iconst 0, 1) := by decide +kernel
theorem d_M_part_103 : decode b_M_part 103 = .ok (.iadd, 1) := by decide +kernel
theorem d_M_part_104 : decode b_M_part 104 = .ok (.ireturn, 1) := by decide +kernel
theorem d_M_cellOf_0 : decode b_M_cellOf 0 = .ok (.iload_n 1, 1) := by decide +kernel
theorem d_M_cellOf_1 : decode b_M_cellOf 1 = .ok (.bipush 100, 2) := by decide +kernel
theorem d_M_cellOf_3 : decode b_M_cellOf 3 = .ok (.if_icmp .ge 16, 3) := by decide +kernel
theorem d_M_cellOf_6 : decode b_M_cellOf 6 = .ok (.aload_n 0, 1) := by decide +kernel
theorem d_M_cellOf_7 : decode b_M_cellOf 7 = .ok (.getfield 16, 3) := by decide +kernel
theorem d_M_cellOf_10 : decode b_M_cellOf 10 = .ok (.iconst 3, 1) := by decide +kernel
theorem d_M_cellOf_11 : decode b_M_cellOf 11 = .ok (.iload_n 1, 1) := by decide +kernel
theorem d_M_cellOf_12 : decode b_M_cellOf 12 = .ok (.imul, 1) := by decide +kernel
theorem d_M_cellOf_13 : decode b_M_cellOf 13 = .ok (.iload_n 2, 1) := by decide +kernel
theorem d_M_cellOf_14 : decode b_M_cellOf 14 = .ok (.iadd, 1) := by decide +kernel
theorem d_M_cellOf_15 : decode b_M_cellOf 15 = .ok (.laload, 1) := by decide +kernel
theorem d_M_cellOf_16 : decode b_M_cellOf 16 = .ok (.goto 16, 3) := by decide +kernel
theorem d_M_cellOf_19 : decode b_M_cellOf 19 = .ok (.aload_n 0, 1) := by decide +kernel
theorem d_M_cellOf_20 : decode b_M_cellOf 20 = .ok (.getfield 183, 3) := by decide +kernel
theorem d_M_cellOf_23 : decode b_M_cellOf 23 = .ok (.iconst 4, 1) := by decide +kernel
theorem d_M_cellOf_24 : decode b_M_cellOf 24 = .ok (.iload_n 1, 1) := by decide +kernel
theorem d_M_cellOf_25 : decode b_M_cellOf 25 = .ok (.bipush 100, 2) := by decide +kernel
theorem d_M_cellOf_27 : decode b_M_cellOf 27 = .ok (.isub, 1) := by decide +kernel
theorem d_M_cellOf_28 : decode b_M_cellOf 28 = .ok (.imul, 1) := by decide +kernel
theorem d_M_cellOf_29 : decode b_M_cellOf 29 = .ok (.iload_n 2, 1) := by decide +kernel
theorem d_M_cellOf_30 : decode b_M_cellOf 30 = .ok (.iadd, 1) := by decide +kernel
theorem d_M_cellOf_31 : decode b_M_cellOf 31 = .ok (.laload, 1) := by decide +kernel
theorem d_M_cellOf_32 : decode b_M_cellOf 32 = .ok (.lreturn, 1) := by decide +kernel
theorem d_M_valueOf_0 : decode b_M_valueOf 0 = .ok (.lconst 0, 1) := by decide +kernel
theorem d_M_valueOf_1 : decode b_M_valueOf 1 = .ok (.lstore_n 2, 1) := by decide +kernel
theorem d_M_valueOf_2 : decode b_M_valueOf 2 = .ok (.iconst 0, 1) := by decide +kernel
theorem d_M_valueOf_3 : decode b_M_valueOf 3 = .ok (.istore 4, 2) := by decide +kernel
theorem d_M_valueOf_5 : decode b_M_valueOf 5 = .ok (.iload 4, 2) := by decide +kernel
theorem d_M_valueOf_7 : decode b_M_valueOf 7 = .ok (.aload_n 0, 1) := by decide +kernel
theorem d_M_valueOf_8 : decode b_M_valueOf 8 = .ok (.getfield 114, 3) := by decide +kernel
theorem d_M_valueOf_11 : decode b_M_valueOf 11 = .ok (.iload_n 1, 1) := by decide +kernel
theorem d_M_valueOf_12 : decode b_M_valueOf 12 = .ok (.iaload, 1) := by decide +kernel
theorem d_M_valueOf_13 : decode b_M_valueOf 13 = .ok (.if_icmp .ge 112, 3) := by decide +kernel
theorem d_M_valueOf_16 : decode b_M_valueOf 16 = .ok (.aload_n 0, 1) := by decide +kernel
theorem d_M_valueOf_17 : decode b_M_valueOf 17 = .ok (.getfield 111, 3) := by decide +kernel
theorem d_M_valueOf_20 : decode b_M_valueOf 20 = .ok (.iload_n 1, 1) := by decide +kernel
theorem d_M_valueOf_21 : decode b_M_valueOf 21 = .ok (.iaload, 1) := by decide +kernel
theorem d_M_valueOf_22 : decode b_M_valueOf 22 = .ok (.iload 4, 2) := by decide +kernel
theorem d_M_valueOf_24 : decode b_M_valueOf 24 = .ok (.iadd, 1) := by decide +kernel
theorem d_M_valueOf_25 : decode b_M_valueOf 25 = .ok (.istore 5, 2) := by decide +kernel
theorem d_M_valueOf_27 : decode b_M_valueOf 27 = .ok (.aload_n 0, 1) := by decide +kernel
theorem d_M_valueOf_28 : decode b_M_valueOf 28 = .ok (.getfield 117, 3) := by decide +kernel
theorem d_M_valueOf_31 : decode b_M_valueOf 31 = .ok (.iload 5, 2) := by decide +kernel
theorem d_M_valueOf_33 : decode b_M_valueOf 33 = .ok (.iaload, 1) := by decide +kernel
theorem d_M_valueOf_34 : decode b_M_valueOf 34 = .ok (.iconst 1, 1) := by decide +kernel
theorem d_M_valueOf_35 : decode b_M_valueOf 35 = .ok (.if_icmp .ne 7, 3) := by decide +kernel
theorem d_M_valueOf_38 : decode b_M_valueOf 38 = .ok (.ldc2_w 253, 3) := by decide +kernel
theorem d_M_valueOf_41 : decode b_M_valueOf 41 = .ok (.lreturn, 1) := by decide +kernel
theorem d_M_valueOf_42 : decode b_M_valueOf 42 = .ok (.aload_n 0, 1) := by decide +kernel
theorem d_M_valueOf_43 : decode b_M_valueOf 43 = .ok (.getfield 117, 3) := by decide +kernel
theorem d_M_valueOf_46 : decode b_M_valueOf 46 = .ok (.iload 5, 2) := by decide +kernel
theorem d_M_valueOf_48 : decode b_M_valueOf 48 = .ok (.iaload, 1) := by decide +kernel
theorem d_M_valueOf_49 : decode b_M_valueOf 49 = .ok (.ifCond .ne 18, 3) := by decide +kernel
theorem d_M_valueOf_52 : decode b_M_valueOf 52 = .ok (.aload_n 0, 1) := by decide +kernel
theorem d_M_valueOf_53 : decode b_M_valueOf 53 = .ok (.getfield 32, 3) := by decide +kernel
theorem d_M_valueOf_56 : decode b_M_valueOf 56 = .ok (.aload_n 0, 1) := by decide +kernel
theorem d_M_valueOf_57 : decode b_M_valueOf 57 = .ok (.getfield 123, 3) := by decide +kernel
theorem d_M_valueOf_60 : decode b_M_valueOf 60 = .ok (.iload 5, 2) := by decide +kernel
theorem d_M_valueOf_62 : decode b_M_valueOf 62 = .ok (.iaload, 1) := by decide +kernel
theorem d_M_valueOf_63 : decode b_M_valueOf 63 = .ok (.laload, 1) := by decide +kernel
theorem d_M_valueOf_64 : decode b_M_valueOf 64 = .ok (.goto 26, 3) := by decide +kernel
theorem d_M_valueOf_67 : decode b_M_valueOf 67 = .ok (.aload_n 0, 1) := by decide +kernel
theorem d_M_valueOf_68 : decode b_M_valueOf 68 = .ok (.aload_n 0, 1) := by decide +kernel
theorem d_M_valueOf_69 : decode b_M_valueOf 69 = .ok (.getfield 225, 3) := by decide +kernel
theorem d_M_valueOf_72 : decode b_M_valueOf 72 = .ok (.aload_n 0, 1) := by decide +kernel
theorem d_M_valueOf_73 : decode b_M_valueOf 73 = .ok (.getfield 126, 3) := by decide +kernel
theorem d_M_valueOf_76 : decode b_M_valueOf 76 = .ok (.iload 5, 2) := by decide +kernel
theorem d_M_valueOf_78 : decode b_M_valueOf 78 = .ok (.iaload, 1) := by decide +kernel
theorem d_M_valueOf_79 : decode b_M_valueOf 79 = .ok (.iaload, 1) := by decide +kernel
theorem d_M_valueOf_80 : decode b_M_valueOf 80 = .ok (.aload_n 0, 1) := by decide +kernel
theorem d_M_valueOf_81 : decode b_M_valueOf 81 = .ok (.getfield 129, 3) := by decide +kernel
theorem d_M_valueOf_84 : decode b_M_valueOf 84 = .ok (.iload 5, 2) := by decide +kernel
theorem d_M_valueOf_86 : decode b_M_valueOf 86 = .ok (.iaload, 1) := by decide +kernel
theorem d_M_valueOf_87 : decode b_M_valueOf 87 = .ok (.invokevirtual 481, 3) := by decide +kernel
theorem d_M_valueOf_90 : decode b_M_valueOf 90 = .ok (.lstore 6, 2) := by decide +kernel
theorem d_M_valueOf_92 : decode b_M_valueOf 92 = .ok (.lload 6, 2) := by decide +kernel
theorem d_M_valueOf_94 : decode b_M_valueOf 94 = .ok (.ldc2_w 253, 3) := by decide +kernel
theorem d_M_valueOf_97 : decode b_M_valueOf 97 = .ok (.lcmp, 1) := by decide +kernel
theorem d_M_valueOf_98 : decode b_M_valueOf 98 = .ok (.ifCond .ne 7, 3) := by decide +kernel
theorem d_M_valueOf_101 : decode b_M_valueOf 101 = .ok (.ldc2_w 253, 3) := by decide +kernel
theorem d_M_valueOf_104 : decode b_M_valueOf 104 = .ok (.lreturn, 1) := by decide +kernel
theorem d_M_valueOf_105 : decode b_M_valueOf 105 = .ok (.lload_n 2, 1) := by decide +kernel
theorem d_M_valueOf_106 : decode b_M_valueOf 106 = .ok (.aload_n 0, 1) := by decide +kernel
theorem d_M_valueOf_107 : decode b_M_valueOf 107 = .ok (.getfield 120, 3) := by decide +kernel
theorem d_M_valueOf_110 : decode b_M_valueOf 110 = .ok (.iload 5, 2) := by decide +kernel
theorem d_M_valueOf_112 : decode b_M_valueOf 112 = .ok (.iaload, 1) := by decide +kernel
theorem d_M_valueOf_113 : decode b_M_valueOf 113 = .ok (.i2l, 1) := by decide +kernel
theorem d_M_valueOf_114 : decode b_M_valueOf 114 = .ok (.lload 6, 2) := by decide +kernel
theorem d_M_valueOf_116 : decode b_M_valueOf 116 = .ok (.lmul, 1) := by decide +kernel
theorem d_M_valueOf_117 : decode b_M_valueOf 117 = .ok (.ladd, 1) := by decide +kernel
theorem d_M_valueOf_118 : decode b_M_valueOf 118 = .ok (.lstore_n 2, 1) := by decide +kernel
theorem d_M_valueOf_119 : decode b_M_valueOf 119 = .ok (.iinc 4 1, 3) := by decide +kernel
theorem d_M_valueOf_122 : decode b_M_valueOf 122 = .ok (.goto (-117), 3) := by decide +kernel
theorem d_M_valueOf_125 : decode b_M_valueOf 125 = .ok (.lload_n 2, 1) := by decide +kernel
theorem d_M_valueOf_126 : decode b_M_valueOf 126 = .ok (.lreturn, 1) := by decide +kernel
theorem d_M_compares_0 : decode b_M_compares 0 = .ok (.aload_n 0, 1) := by decide +kernel
theorem d_M_compares_1 : decode b_M_compares 1 = .ok (.aload_n 0, 1) := by decide +kernel
theorem d_M_compares_2 : decode b_M_compares 2 = .ok (.getfield 147, 3) := by decide +kernel
theorem d_M_compares_5 : decode b_M_compares 5 = .ok (.iload_n 1, 1) := by decide +kernel
theorem d_M_compares_6 : decode b_M_compares 6 = .ok (.iaload, 1) := by decide +kernel
theorem d_M_compares_7 : decode b_M_compares 7 = .ok (.invokevirtual 485, 3) := by decide +kernel
theorem d_M_compares_10 : decode b_M_compares 10 = .ok (.lstore_n 2, 1) := by decide +kernel
theorem d_M_compares_11 : decode b_M_compares 11 = .ok (.aload_n 0, 1) := by decide +kernel
theorem d_M_compares_12 : decode b_M_compares 12 = .ok (.getfield 141, 3) := by decide +kernel
theorem d_M_compares_15 : decode b_M_compares 15 = .ok (.iload_n 1, 1) := by decide +kernel
theorem d_M_compares_16 : decode b_M_compares 16 = .ok (.iaload, 1) := by decide +kernel
theorem d_M_compares_17 : decode b_M_compares 17 = .ok (.iconst 1, 1) := by decide +kernel
theorem d_M_compares_18 : decode b_M_compares 18 = .ok (.if_icmp .ne 17, 3) := by decide +kernel
theorem d_M_compares_21 : decode b_M_compares 21 = .ok (.lload_n 2, 1) := by decide +kernel
theorem d_M_compares_22 : decode b_M_compares 22 = .ok (.ldc2_w 253, 3) := by decide +kernel
theorem d_M_compares_25 : decode b_M_compares 25 = .ok (.lcmp, 1) := by decide +kernel
theorem d_M_compares_26 : decode b_M_compares 26 = .ok (.ifCond .ne 7, 3) := by decide +kernel
theorem d_M_compares_29 : decode b_M_compares 29 = .ok (.iconst 1, 1) := by decide +kernel
theorem d_M_compares_30 : decode b_M_compares 30 = .ok (.goto 4, 3) := by decide +kernel
theorem d_M_compares_33 : decode b_M_compares 33 = .ok (.iconst 0, 1) := by decide +kernel
theorem d_M_compares_34 : decode b_M_compares 34 = .ok (.ireturn, 1) := by decide +kernel
theorem d_M_compares_35 : decode b_M_compares 35 = .ok (.aload_n 0, 1) := by decide +kernel
theorem d_M_compares_36 : decode b_M_compares 36 = .ok (.aload_n 0, 1) := by decide +kernel
theorem d_M_compares_37 : decode b_M_compares 37 = .ok (.getfield 150, 3) := by decide +kernel
theorem d_M_compares_40 : decode b_M_compares 40 = .ok (.iload_n 1, 1) := by decide +kernel
theorem d_M_compares_41 : decode b_M_compares 41 = .ok (.iaload, 1) := by decide +kernel
theorem d_M_compares_42 : decode b_M_compares 42 = .ok (.invokevirtual 485, 3) := by decide +kernel
theorem d_M_compares_45 : decode b_M_compares 45 = .ok (.lstore 4, 2) := by decide +kernel
theorem d_M_compares_47 : decode b_M_compares 47 = .ok (.lload_n 2, 1) := by decide +kernel
theorem d_M_compares_48 : decode b_M_compares 48 = .ok (.ldc2_w 253, 3) := by decide +kernel
theorem d_M_compares_51 : decode b_M_compares 51 = .ok (.lcmp, 1) := by decide +kernel
theorem d_M_compares_52 : decode b_M_compares 52 = .ok (.ifCond .eq 12, 3) := by decide +kernel
theorem d_M_compares_55 : decode b_M_compares 55 = .ok (.lload 4, 2) := by decide +kernel
theorem d_M_compares_57 : decode b_M_compares 57 = .ok (.ldc2_w 253, 3) := by decide +kernel
theorem d_M_compares_60 : decode b_M_compares 60 = .ok (.lcmp, 1) := by decide +kernel
theorem d_M_compares_61 : decode b_M_compares 61 = .ok (.ifCond .ne 5, 3) := by decide +kernel
theorem d_M_compares_64 : decode b_M_compares 64 = .ok (.iconst 0, 1) := by decide +kernel
theorem d_M_compares_65 : decode b_M_compares 65 = .ok (.ireturn, 1) := by decide +kernel
theorem d_M_compares_66 : decode b_M_compares 66 = .ok (.aload_n 0, 1) := by decide +kernel
theorem d_M_compares_67 : decode b_M_compares 67 = .ok (.getfield 144, 3) := by decide +kernel
theorem d_M_compares_70 : decode b_M_compares 70 = .ok (.iload_n 1, 1) := by decide +kernel
theorem d_M_compares_71 : decode b_M_compares 71 = .ok (.iaload, 1) := by decide +kernel
theorem d_M_compares_72 : decode b_M_compares 72 = .ok (.sipush 161, 3) := by decide +kernel
theorem d_M_compares_75 : decode b_M_compares 75 = .ok (.if_icmp .ne 16, 3) := by decide +kernel
theorem d_M_compares_78 : decode b_M_compares 78 = .ok (.lload_n 2, 1) := by decide +kernel
theorem d_M_compares_79 : decode b_M_compares 79 = .ok (.lload 4, 2) := by decide +kernel
theorem d_M_compares_81 : decode b_M_compares 81 = .ok (.lcmp, 1) := by decide +kernel
theorem d_M_compares_82 : decode b_M_compares 82 = .ok (.ifCond .ne 7, 3) := by decide +kernel
theorem d_M_compares_85 : decode b_M_compares 85 = .ok (.iconst 1, 1) := by decide +kernel
theorem d_M_compares_86 : decode b_M_compares 86 = .ok (.goto 4, 3) := by decide +kernel
theorem d_M_compares_89 : decode b_M_compares 89 = .ok (.iconst 0, 1) := by decide +kernel
theorem d_M_compares_90 : decode b_M_compares 90 = .ok (.ireturn, 1) := by decide +kernel
theorem d_M_compares_91 : decode b_M_compares 91 = .ok (.aload_n 0, 1) := by decide +kernel
theorem d_M_compares_92 : decode b_M_compares 92 = .ok (.getfield 144, 3) := by decide +kernel
theorem d_M_compares_95 : decode b_M_compares 95 = .ok (.iload_n 1, 1) := by decide +kernel
