theorem d_Ch_lookAtSources_38 : decode b_Ch_lookAtSources 38 = .ok (.ifCond .ne 21, 3) := by decide +kernel
theorem d_Ch_lookAtSources_41 : decode b_Ch_lookAtSources 41 = .ok (.aload_n 2, 1) := by decide +kernel
theorem d_Ch_lookAtSources_42 : decode b_Ch_lookAtSources 42 = .ok (.getfield 122, 3) := by decide +kernel
theorem d_Ch_lookAtSources_45 : decode b_Ch_lookAtSources 45 = .ok (.aload_n 2, 1) := by decide +kernel
theorem d_Ch_lookAtSources_46 : decode b_Ch_lookAtSources 46 = .ok (.getfield 191, 3) := by decide +kernel
theorem d_Ch_lookAtSources_49 : decode b_Ch_lookAtSources 49 = .ok (.getfield 192, 3) := by decide +kernel
theorem d_Ch_lookAtSources_52 : decode b_Ch_lookAtSources 52 = .ok (.if_icmp .lt 7, 3) := by decide +kernel
theorem d_Ch_lookAtSources_55 : decode b_Ch_lookAtSources 55 = .ok (.iconst 1, 1) := by decide +kernel
theorem d_Ch_lookAtSources_56 : decode b_Ch_lookAtSources 56 = .ok (.goto 4, 3) := by decide +kernel
theorem d_Ch_lookAtSources_59 : decode b_Ch_lookAtSources 59 = .ok (.iconst 0, 1) := by decide +kernel
theorem d_Ch_lookAtSources_60 : decode b_Ch_lookAtSources 60 = .ok (.istore_n 3, 1) := by decide +kernel
theorem d_Ch_lookAtSources_61 : decode b_Ch_lookAtSources 61 = .ok (.aload_n 0, 1) := by decide +kernel
theorem d_Ch_lookAtSources_62 : decode b_Ch_lookAtSources 62 = .ok (.iload_n 3, 1) := by decide +kernel
theorem d_Ch_lookAtSources_63 : decode b_Ch_lookAtSources 63 = .ok (.ifCond .ne 17, 3) := by decide +kernel
theorem d_Ch_lookAtSources_66 : decode b_Ch_lookAtSources 66 = .ok (.aload_n 2, 1) := by decide +kernel
theorem d_Ch_lookAtSources_67 : decode b_Ch_lookAtSources 67 = .ok (.getfield 122, 3) := by decide +kernel
theorem d_Ch_lookAtSources_70 : decode b_Ch_lookAtSources 70 = .ok (.ifCond .ge 14, 3) := by decide +kernel
theorem d_Ch_lookAtSources_73 : decode b_Ch_lookAtSources 73 = .ok (.aload_n 2, 1) := by decide +kernel
theorem d_Ch_lookAtSources_74 : decode b_Ch_lookAtSources 74 = .ok (.getfield 127, 3) := by decide +kernel
theorem d_Ch_lookAtSources_77 : decode b_Ch_lookAtSources 77 = .ok (.ifCond .ge 7, 3) := by decide +kernel
theorem d_Ch_lookAtSources_80 : decode b_Ch_lookAtSources 80 = .ok (.iconst 1, 1) := by decide +kernel
theorem d_Ch_lookAtSources_81 : decode b_Ch_lookAtSources 81 = .ok (.goto 4, 3) := by decide +kernel
theorem d_Ch_lookAtSources_84 : decode b_Ch_lookAtSources 84 = .ok (.iconst 0, 1) := by decide +kernel
theorem d_Ch_lookAtSources_85 : decode b_Ch_lookAtSources 85 = .ok (.aload_n 2, 1) := by decide +kernel
theorem d_Ch_lookAtSources_86 : decode b_Ch_lookAtSources 86 = .ok (.getfield 238, 3) := by decide +kernel
theorem d_Ch_lookAtSources_89 : decode b_Ch_lookAtSources 89 = .ok (.invokevirtual 74, 3) := by decide +kernel
theorem d_Ch_lookAtSources_92 : decode b_Ch_lookAtSources 92 = .ok (.aload_n 2, 1) := by decide +kernel
theorem d_Ch_lookAtSources_93 : decode b_Ch_lookAtSources 93 = .ok (.invokevirtual 239, 3) := by decide +kernel
theorem d_Ch_lookAtSources_96 : decode b_Ch_lookAtSources 96 = .ok (.ifCond .eq 13, 3) := by decide +kernel
theorem d_Ch_lookAtSources_99 : decode b_Ch_lookAtSources 99 = .ok (.aload_n 2, 1) := by decide +kernel
theorem d_Ch_lookAtSources_100 : decode b_Ch_lookAtSources 100 = .ok (.getfield 191, 3) := by decide +kernel
theorem d_Ch_lookAtSources_103 : decode b_Ch_lookAtSources 103 = .ok (.getfield 164, 3) := by decide +kernel
theorem d_Ch_lookAtSources_106 : decode b_Ch_lookAtSources 106 = .ok (.goto 7, 3) := by decide +kernel
theorem d_Ch_lookAtSources_109 : decode b_Ch_lookAtSources 109 = .ok (.aload_n 2, 1) := by decide +kernel
theorem d_Ch_lookAtSources_110 : decode b_Ch_lookAtSources 110 = .ok (.getfield 243, 3) := by decide +kernel
theorem d_Ch_lookAtSources_113 : decode b_Ch_lookAtSources 113 = .ok (.istore 4, 2) := by decide +kernel
theorem d_Ch_lookAtSources_115 : decode b_Ch_lookAtSources 115 = .ok (.iconst 0, 1) := by decide +kernel
theorem d_Ch_lookAtSources_116 : decode b_Ch_lookAtSources 116 = .ok (.istore 5, 2) := by decide +kernel
theorem d_Ch_lookAtSources_118 : decode b_Ch_lookAtSources 118 = .ok (.iload 5, 2) := by decide +kernel
theorem d_Ch_lookAtSources_120 : decode b_Ch_lookAtSources 120 = .ok (.iload 4, 2) := by decide +kernel
theorem d_Ch_lookAtSources_122 : decode b_Ch_lookAtSources 122 = .ok (.if_icmp .ge 43, 3) := by decide +kernel
theorem d_Ch_lookAtSources_125 : decode b_Ch_lookAtSources 125 = .ok (.aload_n 0, 1) := by decide +kernel
theorem d_Ch_lookAtSources_126 : decode b_Ch_lookAtSources 126 = .ok (.aload_n 2, 1) := by decide +kernel
theorem d_Ch_lookAtSources_127 : decode b_Ch_lookAtSources 127 = .ok (.getfield 191, 3) := by decide +kernel
theorem d_Ch_lookAtSources_130 : decode b_Ch_lookAtSources 130 = .ok (.getfield 167, 3) := by decide +kernel
theorem d_Ch_lookAtSources_133 : decode b_Ch_lookAtSources 133 = .ok (.iload 5, 2) := by decide +kernel
theorem d_Ch_lookAtSources_135 : decode b_Ch_lookAtSources 135 = .ok (.aaload, 1) := by decide +kernel
theorem d_Ch_lookAtSources_136 : decode b_Ch_lookAtSources 136 = .ok (.getfield 170, 3) := by decide +kernel
theorem d_Ch_lookAtSources_139 : decode b_Ch_lookAtSources 139 = .ok (.aload_n 2, 1) := by decide +kernel
theorem d_Ch_lookAtSources_140 : decode b_Ch_lookAtSources 140 = .ok (.getfield 170, 3) := by decide +kernel
theorem d_Ch_lookAtSources_143 : decode b_Ch_lookAtSources 143 = .ok (.lcmp, 1) := by decide +kernel
theorem d_Ch_lookAtSources_144 : decode b_Ch_lookAtSources 144 = .ok (.ifCond .ne 7, 3) := by decide +kernel
theorem d_Ch_lookAtSources_147 : decode b_Ch_lookAtSources 147 = .ok (.iconst 1, 1) := by decide +kernel
theorem d_Ch_lookAtSources_148 : decode b_Ch_lookAtSources 148 = .ok (.goto 4, 3) := by decide +kernel
theorem d_Ch_lookAtSources_151 : decode b_Ch_lookAtSources 151 = .ok (.iconst 0, 1) := by decide +kernel
theorem d_Ch_lookAtSources_152 : decode b_Ch_lookAtSources 152 = .ok (.aload_n 2, 1) := by decide +kernel
theorem d_Ch_lookAtSources_153 : decode b_Ch_lookAtSources 153 = .ok (.getfield 246, 3) := by decide +kernel
theorem d_Ch_lookAtSources_156 : decode b_Ch_lookAtSources 156 = .ok (.invokevirtual 74, 3) := by decide +kernel
theorem d_Ch_lookAtSources_159 : decode b_Ch_lookAtSources 159 = .ok (.iinc 5 1, 3) := by decide +kernel
theorem d_Ch_lookAtSources_162 : decode b_Ch_lookAtSources 162 = .ok (.goto (-44), 3) := by decide +kernel
theorem d_Ch_lookAtSources_165 : decode b_Ch_lookAtSources 165 = .ok (.iinc 1 1, 3) := by decide +kernel
theorem d_Ch_lookAtSources_168 : decode b_Ch_lookAtSources 168 = .ok (.goto (-166), 3) := by decide +kernel
theorem d_Ch_lookAtSources_171 : decode b_Ch_lookAtSources 171 = .ok (.return_, 1) := by decide +kernel
theorem d_Ch_lookAtColumns_0 : decode b_Ch_lookAtColumns 0 = .ok (.iconst 0, 1) := by decide +kernel
theorem d_Ch_lookAtColumns_1 : decode b_Ch_lookAtColumns 1 = .ok (.istore_n 1, 1) := by decide +kernel
theorem d_Ch_lookAtColumns_2 : decode b_Ch_lookAtColumns 2 = .ok (.iload_n 1, 1) := by decide +kernel
theorem d_Ch_lookAtColumns_3 : decode b_Ch_lookAtColumns 3 = .ok (.aload_n 0, 1) := by decide +kernel
theorem d_Ch_lookAtColumns_4 : decode b_Ch_lookAtColumns 4 = .ok (.getfield 9, 3) := by decide +kernel
theorem d_Ch_lookAtColumns_7 : decode b_Ch_lookAtColumns 7 = .ok (.getfield 140, 3) := by decide +kernel
theorem d_Ch_lookAtColumns_10 : decode b_Ch_lookAtColumns 10 = .ok (.invokevirtual 105, 3) := by decide +kernel
theorem d_Ch_lookAtColumns_13 : decode b_Ch_lookAtColumns 13 = .ok (.if_icmp .ge 59, 3) := by decide +kernel
theorem d_Ch_lookAtColumns_16 : decode b_Ch_lookAtColumns 16 = .ok (.aload_n 0, 1) := by decide +kernel
theorem d_Ch_lookAtColumns_17 : decode b_Ch_lookAtColumns 17 = .ok (.getfield 9, 3) := by decide +kernel
theorem d_Ch_lookAtColumns_20 : decode b_Ch_lookAtColumns 20 = .ok (.getfield 140, 3) := by decide +kernel
theorem d_Ch_lookAtColumns_23 : decode b_Ch_lookAtColumns 23 = .ok (.iload_n 1, 1) := by decide +kernel
theorem d_Ch_lookAtColumns_24 : decode b_Ch_lookAtColumns 24 = .ok (.invokevirtual 111, 3) := by decide +kernel
theorem d_Ch_lookAtColumns_27 : decode b_Ch_lookAtColumns 27 = .ok (.checkcast 143, 3) := by decide +kernel
theorem d_Ch_lookAtColumns_30 : decode b_Ch_lookAtColumns 30 = .ok (.astore_n 2, 1) := by decide +kernel
theorem d_Ch_lookAtColumns_31 : decode b_Ch_lookAtColumns 31 = .ok (.aload_n 0, 1) := by decide +kernel
theorem d_Ch_lookAtColumns_32 : decode b_Ch_lookAtColumns 32 = .ok (.aload_n 2, 1) := by decide +kernel
theorem d_Ch_lookAtColumns_33 : decode b_Ch_lookAtColumns 33 = .ok (.getfield 158, 3) := by decide +kernel
theorem d_Ch_lookAtColumns_36 : decode b_Ch_lookAtColumns 36 = .ok (.ifCond .lt 18, 3) := by decide +kernel
theorem d_Ch_lookAtColumns_39 : decode b_Ch_lookAtColumns 39 = .ok (.aload_n 2, 1) := by decide +kernel
theorem d_Ch_lookAtColumns_40 : decode b_Ch_lookAtColumns 40 = .ok (.getfield 158, 3) := by decide +kernel
theorem d_Ch_lookAtColumns_43 : decode b_Ch_lookAtColumns 43 = .ok (.iconst 4, 1) := by decide +kernel
theorem d_Ch_lookAtColumns_44 : decode b_Ch_lookAtColumns 44 = .ok (.if_icmp .ne 14, 3) := by decide +kernel
theorem d_Ch_lookAtColumns_47 : decode b_Ch_lookAtColumns 47 = .ok (.aload_n 2, 1) := by decide +kernel
theorem d_Ch_lookAtColumns_48 : decode b_Ch_lookAtColumns 48 = .ok (.getfield 249, 3) := by decide +kernel
theorem d_Ch_lookAtColumns_51 : decode b_Ch_lookAtColumns 51 = .ok (.ifCond .ne 7, 3) := by decide +kernel
theorem d_Ch_lookAtColumns_54 : decode b_Ch_lookAtColumns 54 = .ok (.iconst 1, 1) := by decide +kernel
theorem d_Ch_lookAtColumns_55 : decode b_Ch_lookAtColumns 55 = .ok (.goto 4, 3) := by decide +kernel
theorem d_Ch_lookAtColumns_58 : decode b_Ch_lookAtColumns 58 = .ok (.iconst 0, 1) := by decide +kernel
theorem d_Ch_lookAtColumns_59 : decode b_Ch_lookAtColumns 59 = .ok (.aload_n 2, 1) := by decide +kernel
theorem d_Ch_lookAtColumns_60 : decode b_Ch_lookAtColumns 60 = .ok (.getfield 252, 3) := by decide +kernel
theorem d_Ch_lookAtColumns_63 : decode b_Ch_lookAtColumns 63 = .ok (.invokevirtual 74, 3) := by decide +kernel
theorem d_Ch_lookAtColumns_66 : decode b_Ch_lookAtColumns 66 = .ok (.iinc 1 1, 3) := by decide +kernel
theorem d_Ch_lookAtColumns_69 : decode b_Ch_lookAtColumns 69 = .ok (.goto (-67), 3) := by decide +kernel
theorem d_Ch_lookAtColumns_72 : decode b_Ch_lookAtColumns 72 = .ok (.return_, 1) := by decide +kernel
theorem d_Ch_lookForBarred_0 : decode b_Ch_lookForBarred 0 = .ok (.iconst 0, 1) := by decide +kernel
theorem d_Ch_lookForBarred_1 : decode b_Ch_lookForBarred 1 = .ok (.istore_n 1, 1) := by decide +kernel
theorem d_Ch_lookForBarred_2 : decode b_Ch_lookForBarred 2 = .ok (.iload_n 1, 1) := by decide +kernel
theorem d_Ch_lookForBarred_3 : decode b_Ch_lookForBarred 3 = .ok (.aload_n 0, 1) := by decide +kernel
theorem d_Ch_lookForBarred_4 : decode b_Ch_lookForBarred 4 = .ok (.getfield 9, 3) := by decide +kernel
theorem d_Ch_lookForBarred_7 : decode b_Ch_lookForBarred 7 = .ok (.getfield 101, 3) := by decide +kernel
theorem d_Ch_lookForBarred_10 : decode b_Ch_lookForBarred 10 = .ok (.invokevirtual 105, 3) := by decide +kernel
theorem d_Ch_lookForBarred_13 : decode b_Ch_lookForBarred 13 = .ok (.if_icmp .ge 72, 3) := by decide +kernel
theorem d_Ch_lookForBarred_16 : decode b_Ch_lookForBarred 16 = .ok (.aload_n 0, 1) := by decide +kernel
theorem d_Ch_lookForBarred_17 : decode b_Ch_lookForBarred 17 = .ok (.getfield 9, 3) := by decide +kernel
theorem d_Ch_lookForBarred_20 : decode b_Ch_lookForBarred 20 = .ok (.getfield 101, 3) := by decide +kernel
theorem d_Ch_lookForBarred_23 : decode b_Ch_lookForBarred 23 = .ok (.iload_n 1, 1) := by decide +kernel
theorem d_Ch_lookForBarred_24 : decode b_Ch_lookForBarred 24 = .ok (.invokevirtual 111, 3) := by decide +kernel
theorem d_Ch_lookForBarred_27 : decode b_Ch_lookForBarred 27 = .ok (.checkcast 115, 3) := by decide +kernel
theorem d_Ch_lookForBarred_30 : decode b_Ch_lookForBarred 30 = .ok (.astore_n 2, 1) := by decide +kernel
theorem d_Ch_lookForBarred_31 : decode b_Ch_lookForBarred 31 = .ok (.aload_n 2, 1) := by decide +kernel
theorem d_Ch_lookForBarred_32 : decode b_Ch_lookForBarred 32 = .ok (.invokevirtual 239, 3) := by decide +kernel
theorem d_Ch_lookForBarred_35 : decode b_Ch_lookForBarred 35 = .ok (.ifCond .ne 13, 3) := by decide +kernel
theorem d_Ch_lookForBarred_38 : decode b_Ch_lookForBarred 38 = .ok (.aload_n 2, 1) := by decide +kernel
theorem d_Ch_lookForBarred_39 : decode b_Ch_lookForBarred 39 = .ok (.getfield 191, 3) := by decide +kernel
theorem d_Ch_lookForBarred_42 : decode b_Ch_lookForBarred 42 = .ok (.getfield 66, 3) := by decide +kernel
theorem d_Ch_lookForBarred_45 : decode b_Ch_lookForBarred 45 = .ok (.ifCond .le 7, 3) := by decide +kernel
theorem d_Ch_lookForBarred_48 : decode b_Ch_lookForBarred 48 = .ok (.iconst 1, 1) := by decide +kernel
theorem d_Ch_lookForBarred_49 : decode b_Ch_lookForBarred 49 = .ok (.goto 4, 3) := by decide +kernel
theorem d_Ch_lookForBarred_52 : decode b_Ch_lookForBarred 52 = .ok (.iconst 0, 1) := by decide +kernel
theorem d_Ch_lookForBarred_53 : decode b_Ch_lookForBarred 53 = .ok (.istore_n 3, 1) := by decide +kernel
theorem d_Ch_lookForBarred_54 : decode b_Ch_lookForBarred 54 = .ok (.aload_n 0, 1) := by decide +kernel
theorem d_Ch_lookForBarred_55 : decode b_Ch_lookForBarred 55 = .ok (.iload_n 3, 1) := by decide +kernel
theorem d_Ch_lookForBarred_56 : decode b_Ch_lookForBarred 56 = .ok (.ifCond .eq 15, 3) := by decide +kernel
theorem d_Ch_lookForBarred_59 : decode b_Ch_lookForBarred 59 = .ok (.aload_n 0, 1) := by decide +kernel
theorem d_Ch_lookForBarred_60 : decode b_Ch_lookForBarred 60 = .ok (.aload_n 2, 1) := by decide +kernel
theorem d_Ch_lookForBarred_61 : decode b_Ch_lookForBarred 61 = .ok (.invokevirtual 214, 3) := by decide +kernel
theorem d_Ch_lookForBarred_64 : decode b_Ch_lookForBarred 64 = .ok (.ifCond .eq 7, 3) := by decide +kernel
theorem d_Ch_lookForBarred_67 : decode b_Ch_lookForBarred 67 = .ok (.iconst 1, 1) := by decide +kernel
theorem d_Ch_lookForBarred_68 : decode b_Ch_lookForBarred 68 = .ok (.goto 4, 3) := by decide +kernel
theorem d_Ch_lookForBarred_71 : decode b_Ch_lookForBarred 71 = .ok (.iconst 0, 1) := by decide +kernel
theorem d_Ch_lookForBarred_72 : decode b_Ch_lookForBarred 72 = .ok (.aload_n 2, 1) := by decide +kernel
theorem d_Ch_lookForBarred_73 : decode b_Ch_lookForBarred 73 = .ok (.getfield 238, 3) := by decide +kernel
theorem d_Ch_lookForBarred_76 : decode b_Ch_lookForBarred 76 = .ok (.invokevirtual 74, 3) := by decide +kernel
theorem d_Ch_lookForBarred_79 : decode b_Ch_lookForBarred 79 = .ok (.iinc 1 1, 3) := by decide +kernel
theorem d_Ch_lookForBarred_82 : decode b_Ch_lookForBarred 82 = .ok (.goto (-80), 3) := by decide +kernel
theorem d_Ch_lookForBarred_85 : decode b_Ch_lookForBarred 85 = .ok (.return_, 1) := by decide +kernel
theorem d_Ch_lookAtWidths_0 : decode b_Ch_lookAtWidths 0 = .ok (.iconst 0, 1) := by decide +kernel
theorem d_Ch_lookAtWidths_1 : decode b_Ch_lookAtWidths 1 = .ok (.istore_n 2, 1) := by decide +kernel
theorem d_Ch_lookAtWidths_2 : decode b_Ch_lookAtWidths 2 = .ok (.iload_n 2, 1) := by decide +kernel
theorem d_Ch_lookAtWidths_3 : decode b_Ch_lookAtWidths 3 = .ok (.aload_n 1, 1) := by decide +kernel
theorem d_Ch_lookAtWidths_4 : decode b_Ch_lookAtWidths 4 = .ok (.getfield 253, 3) := by decide +kernel
theorem d_Ch_lookAtWidths_7 : decode b_Ch_lookAtWidths 7 = .ok (.if_icmp .ge 43, 3) := by decide +kernel
theorem d_Ch_lookAtWidths_10 : decode b_Ch_lookAtWidths 10 = .ok (.aload_n 0, 1) := by decide +kernel
theorem d_Ch_lookAtWidths_11 : decode b_Ch_lookAtWidths 11 = .ok (.aload_n 1, 1) := by decide +kernel
theorem d_Ch_lookAtWidths_12 : decode b_Ch_lookAtWidths 12 = .ok (.getfield 256, 3) := by decide +kernel
theorem d_Ch_lookAtWidths_15 : decode b_Ch_lookAtWidths 15 = .ok (.iload_n 2, 1) := by decide +kernel
theorem d_Ch_lookAtWidths_16 : decode b_Ch_lookAtWidths 16 = .ok (.aaload, 1) := by decide +kernel
theorem d_Ch_lookAtWidths_17 : decode b_Ch_lookAtWidths 17 = .ok (.getfield 260, 3) := by decide +kernel
theorem d_Ch_lookAtWidths_20 : decode b_Ch_lookAtWidths 20 = .ok (.aload_n 1, 1) := by decide +kernel
theorem d_Ch_lookAtWidths_21 : decode b_Ch_lookAtWidths 21 = .ok (.getfield 263, 3) := by decide +kernel
theorem d_Ch_lookAtWidths_24 : decode b_Ch_lookAtWidths 24 = .ok (.if_icmp .eq 7, 3) := by decide +kernel
theorem d_Ch_lookAtWidths_27 : decode b_Ch_lookAtWidths 27 = .ok (.iconst 1, 1) := by decide +kernel
theorem d_Ch_lookAtWidths_28 : decode b_Ch_lookAtWidths 28 = .ok (.goto 4, 3) := by decide +kernel
theorem d_Ch_lookAtWidths_31 : decode b_Ch_lookAtWidths 31 = .ok (.iconst 0, 1) := by decide +kernel
theorem d_Ch_lookAtWidths_32 : decode b_Ch_lookAtWidths 32 = .ok (.aload_n 1, 1) := by decide +kernel
theorem d_Ch_lookAtWidths_33 : decode b_Ch_lookAtWidths 33 = .ok (.getfield 256, 3) := by decide +kernel
theorem d_Ch_lookAtWidths_36 : decode b_Ch_lookAtWidths 36 = .ok (.iload_n 2, 1) := by decide +kernel
theorem d_Ch_lookAtWidths_37 : decode b_Ch_lookAtWidths 37 = .ok (.aaload, 1) := by decide +kernel
theorem d_Ch_lookAtWidths_38 : decode b_Ch_lookAtWidths 38 = .ok (.getfield 266, 3) := by decide +kernel
theorem d_Ch_lookAtWidths_41 : decode b_Ch_lookAtWidths 41 = .ok (.invokevirtual 74, 3) := by decide +kernel
theorem d_Ch_lookAtWidths_44 : decode b_Ch_lookAtWidths 44 = .ok (.iinc 2 1, 3) := by decide +kernel
theorem d_Ch_lookAtWidths_47 : decode b_Ch_lookAtWidths 47 = .ok (.goto (-45), 3) := by decide +kernel
theorem d_Ch_lookAtWidths_50 : decode b_Ch_lookAtWidths 50 = .ok (.return_, 1) := by decide +kernel
theorem d_Ch_namesItselfTwice_0 : decode b_Ch_namesItselfTwice 0 = .ok (.iconst 0, 1) := by decide +kernel
theorem d_Ch_namesItselfTwice_1 : decode b_Ch_namesItselfTwice 1 = .ok (.istore_n 1, 1) := by decide +kernel
theorem d_Ch_namesItselfTwice_2 : decode b_Ch_namesItselfTwice 2 = .ok (.iload_n 1, 1) := by decide +kernel
theorem d_Ch_namesItselfTwice_3 : decode b_Ch_namesItselfTwice 3 = .ok (.aload_n 0, 1) := by decide +kernel
theorem d_Ch_namesItselfTwice_4 : decode b_Ch_namesItselfTwice 4 = .ok (.getfield 253, 3) := by decide +kernel
theorem d_Ch_namesItselfTwice_7 : decode b_Ch_namesItselfTwice 7 = .ok (.if_icmp .ge 24, 3) := by decide +kernel
theorem d_Ch_namesItselfTwice_10 : decode b_Ch_namesItselfTwice 10 = .ok (.aload_n 0, 1) := by decide +kernel
theorem d_Ch_namesItselfTwice_11 : decode b_Ch_namesItselfTwice 11 = .ok (.getfield 256, 3) := by decide +kernel
theorem d_Ch_namesItselfTwice_14 : decode b_Ch_namesItselfTwice 14 = .ok (.iload_n 1, 1) := by decide +kernel
theorem d_Ch_namesItselfTwice_15 : decode b_Ch_namesItselfTwice 15 = .ok (.aaload, 1) := by decide +kernel
theorem d_Ch_namesItselfTwice_16 : decode b_Ch_namesItselfTwice 16 = .ok (.getfield 218, 3) := by decide +kernel
theorem d_Ch_namesItselfTwice_19 : decode b_Ch_namesItselfTwice 19 = .ok (.iconst 1, 1) := by decide +kernel
theorem d_Ch_namesItselfTwice_20 : decode b_Ch_namesItselfTwice 20 = .ok (.if_icmp .le 5, 3) := by decide +kernel
theorem d_Ch_namesItselfTwice_23 : decode b_Ch_namesItselfTwice 23 = .ok (.iconst 1, 1) := by decide +kernel
theorem d_Ch_namesItselfTwice_24 : decode b_Ch_namesItselfTwice 24 = .ok (.ireturn, 1) := by decide +kernel
theorem d_Ch_namesItselfTwice_25 : decode b_Ch_namesItselfTwice 25 = .ok (.iinc 1 1, 3) := by decide +kernel
theorem d_Ch_namesItselfTwice_28 : decode b_Ch_namesItselfTwice 28 = .ok (.goto (-26), 3) := by decide +kernel
theorem d_Ch_namesItselfTwice_31 : decode b_Ch_namesItselfTwice 31 = .ok (.iconst 0, 1) := by decide +kernel
theorem d_Ch_namesItselfTwice_32 : decode b_Ch_namesItselfTwice 32 = .ok (.ireturn, 1) := by decide +kernel
theorem d_Ch_isWrong_0 : decode b_Ch_isWrong 0 = .ok (.iload_n 2, 1) := by decide +kernel
theorem d_Ch_isWrong_1 : decode b_Ch_isWrong 1 = .ok (.iconst 4, 1) := by decide +kernel
theorem d_Ch_isWrong_2 : decode b_Ch_isWrong 2 = .ok (.if_icmp .ne 23, 3) := by decide +kernel
theorem d_Ch_isWrong_5 : decode b_Ch_isWrong 5 = .ok (.aload_n 1, 1) := by decide +kernel
theorem d_Ch_isWrong_6 : decode b_Ch_isWrong 6 = .ok (.getfield 267, 3) := by decide +kernel
theorem d_Ch_isWrong_9 : decode b_Ch_isWrong 9 = .ok (.ifCond .eq 14, 3) := by decide +kernel
theorem d_Ch_isWrong_12 : decode b_Ch_isWrong 12 = .ok (.aload_n 1, 1) := by decide +kernel
theorem d_Ch_isWrong_13 : decode b_Ch_isWrong 13 = .ok (.getfield 270, 3) := by decide +kernel
theorem d_Ch_isWrong_16 : decode b_Ch_isWrong 16 = .ok (.ifCond .eq 7, 3) := by decide +kernel
theorem d_Ch_isWrong_19 : decode b_Ch_isWrong 19 = .ok (.iconst 1, 1) := by decide +kernel
theorem d_Ch_isWrong_20 : decode b_Ch_isWrong 20 = .ok (.goto 4, 3) := by decide +kernel
theorem d_Ch_isWrong_23 : decode b_Ch_isWrong 23 = .ok (.iconst 0, 1) := by decide +kernel
theorem d_Ch_isWrong_24 : decode b_Ch_isWrong 24 = .ok (.ireturn, 1) := by decide +kernel
theorem d_Ch_isWrong_25 : decode b_Ch_isWrong 25 = .ok (.iload_n 2, 1) := by decide +kernel
theorem d_Ch_isWrong_26 : decode b_Ch_isWrong 26 = .ok (.bipush 6, 2) := by decide +kernel
theorem d_Ch_isWrong_28 : decode b_Ch_isWrong 28 = .ok (.if_icmp .ne 21, 3) := by decide +kernel
theorem d_Ch_isWrong_31 : decode b_Ch_isWrong 31 = .ok (.aload_n 1, 1) := by decide +kernel
theorem d_Ch_isWrong_32 : decode b_Ch_isWrong 32 = .ok (.getfield 256, 3) := by decide +kernel
theorem d_Ch_isWrong_35 : decode b_Ch_isWrong 35 = .ok (.iconst 0, 1) := by decide +kernel
theorem d_Ch_isWrong_36 : decode b_Ch_isWrong 36 = .ok (.aaload, 1) := by decide +kernel
theorem d_Ch_isWrong_37 : decode b_Ch_isWrong 37 = .ok (.getfield 218, 3) := by decide +kernel
theorem d_Ch_isWrong_40 : decode b_Ch_isWrong 40 = .ok (.ifCond .le 7, 3) := by decide +kernel
theorem d_Ch_isWrong_43 : decode b_Ch_isWrong 43 = .ok (.iconst 1, 1) := by decide +kernel
theorem d_Ch_isWrong_44 : decode b_Ch_isWrong 44 = .ok (.goto 4, 3) := by decide +kernel
theorem d_Ch_isWrong_47 : decode b_Ch_isWrong 47 = .ok (.iconst 0, 1) := by decide +kernel
theorem d_Ch_isWrong_48 : decode b_Ch_isWrong 48 = .ok (.ireturn, 1) := by decide +kernel
theorem d_Ch_isWrong_49 : decode b_Ch_isWrong 49 = .ok (.iload_n 2, 1) := by decide +kernel
theorem d_Ch_isWrong_50 : decode b_Ch_isWrong 50 = .ok (.bipush 7, 2) := by decide +kernel
theorem d_Ch_isWrong_52 : decode b_Ch_isWrong 52 = .ok (.if_icmp .ne 55, 3) := by decide +kernel
theorem d_Ch_isWrong_55 : decode b_Ch_isWrong 55 = .ok (.aload_n 1, 1) := by decide +kernel
theorem d_Ch_isWrong_56 : decode b_Ch_isWrong 56 = .ok (.getfield 198, 3) := by decide +kernel
theorem d_Ch_isWrong_59 : decode b_Ch_isWrong 59 = .ok (.ifCond .eq 46, 3) := by decide +kernel
theorem d_Ch_isWrong_62 : decode b_Ch_isWrong 62 = .ok (.aload_n 1, 1) := by decide +kernel
theorem d_Ch_isWrong_63 : decode b_Ch_isWrong 63 = .ok (.getfield 270, 3) := by decide +kernel
theorem d_Ch_isWrong_66 : decode b_Ch_isWrong 66 = .ok (.ifCond .ne 17, 3) := by decide +kernel
theorem d_Ch_isWrong_69 : decode b_Ch_isWrong 69 = .ok (.aload_n 1, 1) := by decide +kernel
theorem d_Ch_isWrong_70 : decode b_Ch_isWrong 70 = .ok (.getfield 231, 3) := by decide +kernel
theorem d_Ch_isWrong_73 : decode b_Ch_isWrong 73 = .ok (.ifCond .ne 10, 3) := by decide +kernel
theorem d_Ch_isWrong_76 : decode b_Ch_isWrong 76 = .ok (.aload_n 1, 1) := by decide +kernel
theorem d_Ch_isWrong_77 : decode b_Ch_isWrong 77 = .ok (.getfield 234, 3) := by decide +kernel
theorem d_Ch_isWrong_80 : decode b_Ch_isWrong 80 = .ok (.ifCond .eq 25, 3) := by decide +kernel
theorem d_Ch_isWrong_83 : decode b_Ch_isWrong 83 = .ok (.aload_n 1, 1) := by decide +kernel
theorem d_Ch_isWrong_84 : decode b_Ch_isWrong 84 = .ok (.getfield 202, 3) := by decide +kernel
theorem d_Ch_isWrong_87 : decode b_Ch_isWrong 87 = .ok (.invokestatic 273, 3) := by decide +kernel
theorem d_Ch_isWrong_90 : decode b_Ch_isWrong 90 = .ok (.iconst 1, 1) := by decide +kernel
theorem d_Ch_isWrong_91 : decode b_Ch_isWrong 91 = .ok (.if_icmp .gt 10, 3) := by decide +kernel
theorem d_Ch_isWrong_94 : decode b_Ch_isWrong 94 = .ok (.aload_n 1, 1) := by decide +kernel
theorem d_Ch_isWrong_95 : decode b_Ch_isWrong 95 = .ok (.invokestatic 278, 3) := by decide +kernel
theorem d_Ch_isWrong_98 : decode b_Ch_isWrong 98 = .ok (.ifCond .eq 7, 3) := by decide +kernel
theorem d_Ch_isWrong_101 : decode b_Ch_isWrong 101 = .ok (.iconst 1, 1) := by decide +kernel
theorem d_Ch_isWrong_102 : decode b_Ch_isWrong 102 = .ok (.goto 4, 3) := by decide +kernel
theorem d_Ch_isWrong_105 : decode b_Ch_isWrong 105 = .ok (.iconst 0, 1) := by decide +kernel
theorem d_Ch_isWrong_106 : decode b_Ch_isWrong 106 = .ok (.ireturn, 1) := by decide +kernel
theorem d_Ch_isWrong_107 : decode b_Ch_isWrong 107 = .ok (.iload_n 2, 1) := by decide +kernel
theorem d_Ch_isWrong_108 : decode b_Ch_isWrong 108 = .ok (.bipush 8, 2) := by decide +kernel
theorem d_Ch_isWrong_110 : decode b_Ch_isWrong 110 = .ok (.if_icmp .ne 28, 3) := by decide +kernel
theorem d_Ch_isWrong_113 : decode b_Ch_isWrong 113 = .ok (.aload_n 1, 1) := by decide +kernel
theorem d_Ch_isWrong_114 : decode b_Ch_isWrong 114 = .ok (.getfield 231, 3) := by decide +kernel
theorem d_Ch_isWrong_117 : decode b_Ch_isWrong 117 = .ok (.ifCond .ne 10, 3) := by decide +kernel
theorem d_Ch_isWrong_120 : decode b_Ch_isWrong 120 = .ok (.aload_n 1, 1) := by decide +kernel
theorem d_Ch_isWrong_121 : decode b_Ch_isWrong 121 = .ok (.getfield 234, 3) := by decide +kernel
theorem d_Ch_isWrong_124 : decode b_Ch_isWrong 124 = .ok (.ifCond .eq 14, 3) := by decide +kernel
theorem d_Ch_isWrong_127 : decode b_Ch_isWrong 127 = .ok (.aload_n 1, 1) := by decide +kernel
theorem d_Ch_isWrong_128 : decode b_Ch_isWrong 128 = .ok (.getfield 198, 3) := by decide +kernel
theorem d_Ch_isWrong_131 : decode b_Ch_isWrong 131 = .ok (.ifCond .ne 7, 3) := by decide +kernel
theorem d_Ch_isWrong_134 : decode b_Ch_isWrong 134 = .ok (.iconst 1, 1) := by decide +kernel
theorem d_Ch_isWrong_135 : decode b_Ch_isWrong 135 = .ok (.goto 4, 3) := by decide +kernel
theorem d_Ch_isWrong_138 : decode b_Ch_isWrong 138 = .ok (.iconst 0, 1) := by decide +kernel
theorem d_Ch_isWrong_139 : decode b_Ch_isWrong 139 = .ok (.ireturn, 1) := by decide +kernel
theorem d_Ch_look_0 : decode b_Ch_look 0 = .ok (.iload_n 1, 1) := by decide +kernel
theorem d_Ch_look_1 : decode b_Ch_look 1 = .ok (.iconst 2, 1) := by decide +kernel
theorem d_Ch_look_2 : decode b_Ch_look 2 = .ok (.if_icmp .ne 55, 3) := by decide +kernel
theorem d_Ch_look_5 : decode b_Ch_look 5 = .ok (.aload_n 0, 1) := by decide +kernel
theorem d_Ch_look_6 : decode b_Ch_look 6 = .ok (.invokevirtual 48, 3) := by decide +kernel
theorem d_Ch_look_9 : decode b_Ch_look 9 = .ok (.aload_n 0, 1) := by decide +kernel
theorem d_Ch_look_10 : decode b_Ch_look 10 = .ok (.invokevirtual 51, 3) := by decide +kernel
theorem d_Ch_look_13 : decode b_Ch_look 13 = .ok (.aload_n 0, 1) := by decide +kernel
theorem d_Ch_look_14 : decode b_Ch_look 14 = .ok (.invokevirtual 54, 3) := by decide +kernel
theorem d_Ch_look_17 : decode b_Ch_look 17 = .ok (.aload_n 0, 1) := by decide +kernel
theorem d_Ch_look_18 : decode b_Ch_look 18 = .ok (.aload_n 0, 1) := by decide +kernel
theorem d_Ch_look_19 : decode b_Ch_look 19 = .ok (.getfield 9, 3) := by decide +kernel
theorem d_Ch_look_22 : decode b_Ch_look 22 = .ok (.getfield 57, 3) := by decide +kernel
theorem d_Ch_look_25 : decode b_Ch_look 25 = .ok (.ifCond .le 20, 3) := by decide +kernel
theorem d_Ch_look_28 : decode b_Ch_look 28 = .ok (.aload_n 0, 1) := by decide +kernel
theorem d_Ch_look_29 : decode b_Ch_look 29 = .ok (.getfield 9, 3) := by decide +kernel
theorem d_Ch_look_32 : decode b_Ch_look 32 = .ok (.getfield 62, 3) := by decide +kernel
theorem d_Ch_look_35 : decode b_Ch_look 35 = .ok (.getfield 66, 3) := by decide +kernel
theorem d_Ch_look_38 : decode b_Ch_look 38 = .ok (.ifCond .le 7, 3) := by decide +kernel
theorem d_Ch_look_41 : decode b_Ch_look 41 = .ok (.iconst 1, 1) := by decide +kernel
theorem d_Ch_look_42 : decode b_Ch_look 42 = .ok (.goto 4, 3) := by decide +kernel
theorem d_Ch_look_45 : decode b_Ch_look 45 = .ok (.iconst 0, 1) := by decide +kernel
theorem d_Ch_look_46 : decode b_Ch_look 46 = .ok (.aload_n 0, 1) := by decide +kernel
theorem d_Ch_look_47 : decode b_Ch_look 47 = .ok (.getfield 9, 3) := by decide +kernel
theorem d_Ch_look_50 : decode b_Ch_look 50 = .ok (.getfield 71, 3) := by decide +kernel
theorem d_Ch_look_53 : decode b_Ch_look 53 = .ok (.invokevirtual 74, 3) := by decide +kernel
theorem d_Ch_look_56 : decode b_Ch_look 56 = .ok (.return_, 1) := by decide +kernel
theorem d_Ch_look_57 : decode b_Ch_look 57 = .ok (.iload_n 1, 1) := by decide +kernel
theorem d_Ch_look_58 : decode b_Ch_look 58 = .ok (.iconst 5, 1) := by decide +kernel
theorem d_Ch_look_59 : decode b_Ch_look 59 = .ok (.if_icmp .ne 8, 3) := by decide +kernel
theorem d_Ch_look_62 : decode b_Ch_look 62 = .ok (.aload_n 0, 1) := by decide +kernel
theorem d_Ch_look_63 : decode b_Ch_look 63 = .ok (.invokevirtual 78, 3) := by decide +kernel
theorem d_Ch_look_66 : decode b_Ch_look 66 = .ok (.return_, 1) := by decide +kernel
theorem d_Ch_look_67 : decode b_Ch_look 67 = .ok (.iconst 0, 1) := by decide +kernel
theorem d_Ch_look_68 : decode b_Ch_look 68 = .ok (.istore_n 2, 1) := by decide +kernel
theorem d_Ch_look_69 : decode b_Ch_look 69 = .ok (.iload_n 2, 1) := by decide +kernel
theorem d_Ch_look_70 : decode b_Ch_look 70 = .ok (.aload_n 0, 1) := by decide +kernel
theorem d_Ch_look_71 : decode b_Ch_look 71 = .ok (.getfield 9, 3) := by decide +kernel
theorem d_Ch_look_74 : decode b_Ch_look 74 = .ok (.getfield 81, 3) := by decide +kernel
theorem d_Ch_look_77 : decode b_Ch_look 77 = .ok (.if_icmp .ge 46, 3) := by decide +kernel
theorem d_Ch_look_80 : decode b_Ch_look 80 = .ok (.aload_n 0, 1) := by decide +kernel
theorem d_Ch_look_81 : decode b_Ch_look 81 = .ok (.getfield 9, 3) := by decide +kernel
theorem d_Ch_look_84 : decode b_Ch_look 84 = .ok (.getfield 84, 3) := by decide +kernel
theorem d_Ch_look_87 : decode b_Ch_look 87 = .ok (.iload_n 2, 1) := by decide +kernel
theorem d_Ch_look_88 : decode b_Ch_look 88 = .ok (.aaload, 1) := by decide +kernel
theorem d_Ch_look_89 : decode b_Ch_look 89 = .ok (.astore_n 3, 1) := by decide +kernel
theorem d_Ch_look_90 : decode b_Ch_look 90 = .ok (.iload_n 1, 1) := by decide +kernel
theorem d_Ch_look_91 : decode b_Ch_look 91 = .ok (.iconst 3, 1) := by decide +kernel
theorem d_Ch_look_92 : decode b_Ch_look 92 = .ok (.if_icmp .ne 11, 3) := by decide +kernel
theorem d_Ch_look_95 : decode b_Ch_look 95 = .ok (.aload_n 0, 1) := by decide +kernel
theorem d_Ch_look_96 : decode b_Ch_look 96 = .ok (.aload_n 3, 1) := by decide +kernel
theorem d_Ch_look_97 : decode b_Ch_look 97 = .ok (.invokevirtual 88, 3) := by decide +kernel
theorem d_Ch_look_100 : decode b_Ch_look 100 = .ok (.goto 17, 3) := by decide +kernel
theorem d_Ch_look_103 : decode b_Ch_look 103 = .ok (.aload_n 0, 1) := by decide +kernel
theorem d_Ch_look_104 : decode b_Ch_look 104 = .ok (.aload_n 0, 1) := by decide +kernel
theorem d_Ch_look_105 : decode b_Ch_look 105 = .ok (.aload_n 3, 1) := by decide +kernel
theorem d_Ch_look_106 : decode b_Ch_look 106 = .ok (.iload_n 1, 1) := by decide +kernel
theorem d_Ch_look_107 : decode b_Ch_look 107 = .ok (.invokevirtual 92, 3) := by decide +kernel
theorem d_Ch_look_110 : decode b_Ch_look 110 = .ok (.aload_n 3, 1) := by decide +kernel
theorem d_Ch_look_111 : decode b_Ch_look 111 = .ok (.getfield 96, 3) := by decide +kernel
theorem d_Ch_look_114 : decode b_Ch_look 114 = .ok (.invokevirtual 74, 3) := by decide +kernel
theorem d_Ch_look_117 : decode b_Ch_look 117 = .ok (.iinc 2 1, 3) := by decide +kernel
theorem d_Ch_look_120 : decode b_Ch_look 120 = .ok (.goto (-51), 3) := by decide +kernel
theorem d_Ch_look_123 : decode b_Ch_look 123 = .ok (.return_, 1) := by decide +kernel
theorem d_Ch_levelConditions_0 : decode b_Ch_levelConditions 0 = .ok (.iconst 0, 1) := by decide +kernel
theorem d_Ch_levelConditions_1 : decode b_Ch_levelConditions 1 = .ok (.istore_n 1, 1) := by decide +kernel
theorem d_Ch_levelConditions_2 : decode b_Ch_levelConditions 2 = .ok (.iload_n 1, 1) := by decide +kernel
theorem d_Ch_levelConditions_3 : decode b_Ch_levelConditions 3 = .ok (.aload_n 0, 1) := by decide +kernel
theorem d_Ch_levelConditions_4 : decode b_Ch_levelConditions 4 = .ok (.getfield 9, 3) := by decide +kernel
theorem d_Ch_levelConditions_7 : decode b_Ch_levelConditions 7 = .ok (.getfield 140, 3) := by decide +kernel
theorem d_Ch_levelConditions_10 : decode b_Ch_levelConditions 10 = .ok (.invokevirtual 105, 3) := by decide +kernel
theorem d_Ch_levelConditions_13 : decode b_Ch_levelConditions 13 = .ok (.if_icmp .ge 64, 3) := by decide +kernel
theorem d_Ch_levelConditions_16 : decode b_Ch_levelConditions 16 = .ok (.aload_n 0, 1) := by decide +kernel
theorem d_Ch_levelConditions_17 : decode b_Ch_levelConditions 17 = .ok (.getfield 9, 3) := by decide +kernel
theorem d_Ch_levelConditions_20 : decode b_Ch_levelConditions 20 = .ok (.getfield 140, 3) := by decide +kernel
theorem d_Ch_levelConditions_23 : decode b_Ch_levelConditions 23 = .ok (.iload_n 1, 1) := by decide +kernel
theorem d_Ch_levelConditions_24 : decode b_Ch_levelConditions 24 = .ok (.invokevirtual 111, 3) := by decide +kernel
theorem d_Ch_levelConditions_27 : decode b_Ch_levelConditions 27 = .ok (.checkcast 143, 3) := by decide +kernel
theorem d_Ch_levelConditions_30 : decode b_Ch_levelConditions 30 = .ok (.astore_n 2, 1) := by decide +kernel
theorem d_Ch_levelConditions_31 : decode b_Ch_levelConditions 31 = .ok (.aload_n 2, 1) := by decide +kernel
theorem d_Ch_levelConditions_32 : decode b_Ch_levelConditions 32 = .ok (.getfield 174, 3) := by decide +kernel
theorem d_Ch_levelConditions_35 : decode b_Ch_levelConditions 35 = .ok (.ifnull 36, 3) := by decide +kernel
theorem d_Ch_levelConditions_38 : decode b_Ch_levelConditions 38 = .ok (.aload_n 2, 1) := by decide +kernel
theorem d_Ch_levelConditions_39 : decode b_Ch_levelConditions 39 = .ok (.getfield 149, 3) := by decide +kernel
theorem d_Ch_levelConditions_42 : decode b_Ch_levelConditions 42 = .ok (.ifnull 29, 3) := by decide +kernel
theorem d_Ch_levelConditions_45 : decode b_Ch_levelConditions 45 = .ok (.aload_n 2, 1) := by decide +kernel
theorem d_Ch_levelConditions_46 : decode b_Ch_levelConditions 46 = .ok (.getfield 174, 3) := by decide +kernel
theorem d_Ch_levelConditions_49 : decode b_Ch_levelConditions 49 = .ok (.aload_n 2, 1) := by decide +kernel
theorem d_Ch_levelConditions_50 : decode b_Ch_levelConditions 50 = .ok (.getfield 174, 3) := by decide +kernel
theorem d_Ch_levelConditions_53 : decode b_Ch_levelConditions 53 = .ok (.getfield 282, 3) := by decide +kernel
theorem d_Ch_levelConditions_56 : decode b_Ch_levelConditions 56 = .ok (.aload_n 2, 1) := by decide +kernel
theorem d_Ch_levelConditions_57 : decode b_Ch_levelConditions 57 = .ok (.getfield 149, 3) := by decide +kernel
theorem d_Ch_levelConditions_60 : decode b_Ch_levelConditions 60 = .ok (.getfield 243, 3) := by decide +kernel
theorem d_Ch_levelConditions_63 : decode b_Ch_levelConditions 63 = .ok (.iconst 1, 1) := by decide +kernel
theorem d_Ch_levelConditions_64 : decode b_Ch_levelConditions 64 = .ok (.iadd, 1) := by decide +kernel
theorem d_Ch_levelConditions_65 : decode b_Ch_levelConditions 65 = .ok (.invokestatic 225, 3) := by decide +kernel
theorem d_Ch_levelConditions_68 : decode b_Ch_levelConditions 68 = .ok (.putfield 282, 3) := by decide +kernel
theorem d_Ch_levelConditions_71 : decode b_Ch_levelConditions 71 = .ok (.iinc 1 1, 3) := by decide +kernel
theorem d_Ch_levelConditions_74 : decode b_Ch_levelConditions 74 = .ok (.goto (-72), 3) := by decide +kernel
theorem d_Ch_levelConditions_77 : decode b_Ch_levelConditions 77 = .ok (.return_, 1) := by decide +kernel
theorem d_Ch_find_0 : decode b_Ch_find 0 = .ok (.aload_n 0, 1) := by decide +kernel
theorem d_Ch_find_1 : decode b_Ch_find 1 = .ok (.aload_n 1, 1) := by decide +kernel
theorem d_Ch_find_2 : decode b_Ch_find 2 = .ok (.putfield 9, 3) := by decide +kernel
theorem d_Ch_find_5 : decode b_Ch_find 5 = .ok (.aload_n 0, 1) := by decide +kernel
theorem d_Ch_find_6 : decode b_Ch_find 6 = .ok (.aload_n 2, 1) := by decide +kernel
theorem d_Ch_find_7 : decode b_Ch_find 7 = .ok (.putfield 15, 3) := by decide +kernel
theorem d_Ch_find_10 : decode b_Ch_find 10 = .ok (.aload_n 0, 1) := by decide +kernel
theorem d_Ch_find_11 : decode b_Ch_find 11 = .ok (.iload_n 3, 1) := by decide +kernel
theorem d_Ch_find_12 : decode b_Ch_find 12 = .ok (.putfield 19, 3) := by decide +kernel
theorem d_Ch_find_15 : decode b_Ch_find 15 = .ok (.aload_n 0, 1) := by decide +kernel
theorem d_Ch_find_16 : decode b_Ch_find 16 = .ok (.invokevirtual 23, 3) := by decide +kernel
theorem d_Ch_find_19 : decode b_Ch_find 19 = .ok (.aload_n 0, 1) := by decide +kernel
theorem d_Ch_find_20 : decode b_Ch_find 20 = .ok (.invokevirtual 26, 3) := by decide +kernel
theorem d_Ch_find_23 : decode b_Ch_find 23 = .ok (.aload_n 0, 1) := by decide +kernel
theorem d_Ch_find_24 : decode b_Ch_find 24 = .ok (.invokevirtual 29, 3) := by decide +kernel
theorem d_Ch_find_27 : decode b_Ch_find 27 = .ok (.aload_n 0, 1) := by decide +kernel
theorem d_Ch_find_28 : decode b_Ch_find 28 = .ok (.invokevirtual 32, 3) := by decide +kernel
theorem d_Ch_find_31 : decode b_Ch_find 31 = .ok (.aload_n 0, 1) := by decide +kernel
theorem d_Ch_find_32 : decode b_Ch_find 32 = .ok (.invokevirtual 35, 3) := by decide +kernel
theorem d_Ch_find_35 : decode b_Ch_find 35 = .ok (.iconst 2, 1) := by decide +kernel
theorem d_Ch_find_36 : decode b_Ch_find 36 = .ok (.istore 4, 2) := by decide +kernel
theorem d_Ch_find_38 : decode b_Ch_find 38 = .ok (.iload 4, 2) := by decide +kernel
theorem d_Ch_find_40 : decode b_Ch_find 40 = .ok (.bipush 8, 2) := by decide +kernel
theorem d_Ch_find_42 : decode b_Ch_find 42 = .ok (.if_icmp .gt 43, 3) := by decide +kernel
theorem d_Ch_find_45 : decode b_Ch_find 45 = .ok (.aload_n 0, 1) := by decide +kernel
theorem d_Ch_find_46 : decode b_Ch_find 46 = .ok (.sipush 401, 3) := by decide +kernel
theorem d_Ch_find_49 : decode b_Ch_find 49 = .ok (.putfield 38, 3) := by decide +kernel
theorem d_Ch_find_52 : decode b_Ch_find 52 = .ok (.aload_n 0, 1) := by decide +kernel
theorem d_Ch_find_53 : decode b_Ch_find 53 = .ok (.iload 4, 2) := by decide +kernel
theorem d_Ch_find_55 : decode b_Ch_find 55 = .ok (.invokevirtual 41, 3) := by decide +kernel
theorem d_Ch_find_58 : decode b_Ch_find 58 = .ok (.aload_n 0, 1) := by decide +kernel
theorem d_Ch_find_59 : decode b_Ch_find 59 = .ok (.getfield 38, 3) := by decide +kernel
theorem d_Ch_find_62 : decode b_Ch_find 62 = .ok (.sipush 401, 3) := by decide +kernel
theorem d_Ch_find_65 : decode b_Ch_find 65 = .ok (.if_icmp .eq 14, 3) := by decide +kernel
theorem d_Ch_find_68 : decode b_Ch_find 68 = .ok (.iload 4, 2) := by decide +kernel
theorem d_Ch_find_70 : decode b_Ch_find 70 = .ok (.bipush 10, 2) := by decide +kernel
theorem d_Ch_find_72 : decode b_Ch_find 72 = .ok (.aload_n 0, 1) := by decide +kernel
theorem d_Ch_find_73 : decode b_Ch_find 73 = .ok (.getfield 38, 3) := by decide +kernel
theorem d_Ch_find_76 : decode b_Ch_find 76 = .ok (.imul, 1) := by decide +kernel
theorem d_Ch_find_77 : decode b_Ch_find 77 = .ok (.iadd, 1) := by decide +kernel
theorem d_Ch_find_78 : decode b_Ch_find 78 = .ok (.ireturn, 1) := by decide +kernel
theorem d_Ch_find_79 : decode b_Ch_find 79 = .ok (.iinc 4 1, 3) := by decide +kernel
theorem d_Ch_find_82 : decode b_Ch_find 82 = .ok (.goto (-44), 3) := by decide +kernel
theorem d_Ch_find_85 : decode b_Ch_find 85 = .ok (.aload_n 0, 1) := by decide +kernel
theorem d_Ch_find_86 : decode b_Ch_find 86 = .ok (.invokevirtual 45, 3) := by decide +kernel
theorem d_Ch_find_89 : decode b_Ch_find 89 = .ok (.iconst 0, 1) := by decide +kernel
theorem d_Ch_find_90 : decode b_Ch_find 90 = .ok (.ireturn, 1) := by decide +kernel
