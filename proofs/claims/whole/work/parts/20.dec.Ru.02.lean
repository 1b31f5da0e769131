theorem d_Ru_takeCombination_1 : decode b_Ru_takeCombination 1 = .ok (.istore_n 1, 1) := by decide +kernel
theorem d_Ru_takeCombination_2 : decode b_Ru_takeCombination 2 = .ok (.iload_n 1, 1) := by decide +kernel
theorem d_Ru_takeCombination_3 : decode b_Ru_takeCombination 3 = .ok (.aload_n 0, 1) := by decide +kernel
theorem d_Ru_takeCombination_4 : decode b_Ru_takeCombination 4 = .ok (.getfield 107, 3) := by decide +kernel
theorem d_Ru_takeCombination_7 : decode b_Ru_takeCombination 7 = .ok (.getfield 131, 3) := by decide +kernel
theorem d_Ru_takeCombination_10 : decode b_Ru_takeCombination 10 = .ok (.if_icmp .ge 62, 3) := by decide +kernel
theorem d_Ru_takeCombination_13 : decode b_Ru_takeCombination 13 = .ok (.aload_n 0, 1) := by decide +kernel
theorem d_Ru_takeCombination_14 : decode b_Ru_takeCombination 14 = .ok (.getfield 107, 3) := by decide +kernel
theorem d_Ru_takeCombination_17 : decode b_Ru_takeCombination 17 = .ok (.getfield 272, 3) := by decide +kernel
theorem d_Ru_takeCombination_20 : decode b_Ru_takeCombination 20 = .ok (.iload_n 1, 1) := by decide +kernel
theorem d_Ru_takeCombination_21 : decode b_Ru_takeCombination 21 = .ok (.aaload, 1) := by decide +kernel
theorem d_Ru_takeCombination_22 : decode b_Ru_takeCombination 22 = .ok (.ifnonnull 44, 3) := by decide +kernel
theorem d_Ru_takeCombination_25 : decode b_Ru_takeCombination 25 = .ok (.aload_n 0, 1) := by decide +kernel
theorem d_Ru_takeCombination_26 : decode b_Ru_takeCombination 26 = .ok (.getfield 28, 3) := by decide +kernel
theorem d_Ru_takeCombination_29 : decode b_Ru_takeCombination 29 = .ok (.iload_n 1, 1) := by decide +kernel
theorem d_Ru_takeCombination_30 : decode b_Ru_takeCombination 30 = .ok (.aload_n 0, 1) := by decide +kernel
theorem d_Ru_takeCombination_31 : decode b_Ru_takeCombination 31 = .ok (.getfield 107, 3) := by decide +kernel
theorem d_Ru_takeCombination_34 : decode b_Ru_takeCombination 34 = .ok (.getfield 276, 3) := by decide +kernel
theorem d_Ru_takeCombination_37 : decode b_Ru_takeCombination 37 = .ok (.iload_n 1, 1) := by decide +kernel
theorem d_Ru_takeCombination_38 : decode b_Ru_takeCombination 38 = .ok (.aaload, 1) := by decide +kernel
theorem d_Ru_takeCombination_39 : decode b_Ru_takeCombination 39 = .ok (.invokevirtual 239, 3) := by decide +kernel
theorem d_Ru_takeCombination_42 : decode b_Ru_takeCombination 42 = .ok (.lastore, 1) := by decide +kernel
theorem d_Ru_takeCombination_43 : decode b_Ru_takeCombination 43 = .ok (.aload_n 0, 1) := by decide +kernel
theorem d_Ru_takeCombination_44 : decode b_Ru_takeCombination 44 = .ok (.getfield 28, 3) := by decide +kernel
theorem d_Ru_takeCombination_47 : decode b_Ru_takeCombination 47 = .ok (.iload_n 1, 1) := by decide +kernel
theorem d_Ru_takeCombination_48 : decode b_Ru_takeCombination 48 = .ok (.laload, 1) := by decide +kernel
theorem d_Ru_takeCombination_49 : decode b_Ru_takeCombination 49 = .ok (.invokestatic 279, 3) := by decide +kernel
theorem d_Ru_takeCombination_52 : decode b_Ru_takeCombination 52 = .ok (.ifCond .eq 14, 3) := by decide +kernel
theorem d_Ru_takeCombination_55 : decode b_Ru_takeCombination 55 = .ok (.new 283, 3) := by decide +kernel
theorem d_Ru_takeCombination_58 : decode b_Ru_takeCombination 58 = .ok (.dup, 1) := by decide +kernel
theorem d_Ru_takeCombination_59 : decode b_Ru_takeCombination 59 = .ok (.ldc_w 285, 3) := by decide +kernel
theorem d_Ru_takeCombination_62 : decode b_Ru_takeCombination 62 = .ok (.invokespecial 287, 3) := by decide +kernel
theorem d_Ru_takeCombination_65 : decode b_Ru_takeCombination 65 = .ok (.athrow, 1) := by decide +kernel
theorem d_Ru_takeCombination_66 : decode b_Ru_takeCombination 66 = .ok (.iinc 1 1, 3) := by decide +kernel
theorem d_Ru_takeCombination_69 : decode b_Ru_takeCombination 69 = .ok (.goto (-67), 3) := by decide +kernel
theorem d_Ru_takeCombination_72 : decode b_Ru_takeCombination 72 = .ok (.aload_n 0, 1) := by decide +kernel
theorem d_Ru_takeCombination_73 : decode b_Ru_takeCombination 73 = .ok (.getfield 107, 3) := by decide +kernel
theorem d_Ru_takeCombination_76 : decode b_Ru_takeCombination 76 = .ok (.getfield 128, 3) := by decide +kernel
theorem d_Ru_takeCombination_79 : decode b_Ru_takeCombination 79 = .ok (.ifCond .le 10, 3) := by decide +kernel
theorem d_Ru_takeCombination_82 : decode b_Ru_takeCombination 82 = .ok (.aload_n 0, 1) := by decide +kernel
theorem d_Ru_takeCombination_83 : decode b_Ru_takeCombination 83 = .ok (.invokevirtual 288, 3) := by decide +kernel
theorem d_Ru_takeCombination_86 : decode b_Ru_takeCombination 86 = .ok (.goto 7, 3) := by decide +kernel
theorem d_Ru_takeCombination_89 : decode b_Ru_takeCombination 89 = .ok (.aload_n 0, 1) := by decide +kernel
theorem d_Ru_takeCombination_90 : decode b_Ru_takeCombination 90 = .ok (.invokevirtual 291, 3) := by decide +kernel
theorem d_Ru_takeCombination_93 : decode b_Ru_takeCombination 93 = .ok (.return_, 1) := by decide +kernel
theorem d_Ru_combine_0 : decode b_Ru_combine 0 = .ok (.aload_n 0, 1) := by decide +kernel
theorem d_Ru_combine_1 : decode b_Ru_combine 1 = .ok (.getfield 119, 3) := by decide +kernel
theorem d_Ru_combine_4 : decode b_Ru_combine 4 = .ok (.ifCond .ne 10, 3) := by decide +kernel
theorem d_Ru_combine_7 : decode b_Ru_combine 7 = .ok (.aload_n 0, 1) := by decide +kernel
theorem d_Ru_combine_8 : decode b_Ru_combine 8 = .ok (.getfield 122, 3) := by decide +kernel
theorem d_Ru_combine_11 : decode b_Ru_combine 11 = .ok (.ifCond .eq 14, 3) := by decide +kernel
theorem d_Ru_combine_14 : decode b_Ru_combine 14 = .ok (.aload_n 0, 1) := by decide +kernel
theorem d_Ru_combine_15 : decode b_Ru_combine 15 = .ok (.getfield 107, 3) := by decide +kernel
theorem d_Ru_combine_18 : decode b_Ru_combine 18 = .ok (.getfield 204, 3) := by decide +kernel
theorem d_Ru_combine_21 : decode b_Ru_combine 21 = .ok (.ifCond .ne 4, 3) := by decide +kernel
theorem d_Ru_combine_24 : decode b_Ru_combine 24 = .ok (.return_, 1) := by decide +kernel
theorem d_Ru_combine_25 : decode b_Ru_combine 25 = .ok (.iconst 0, 1) := by decide +kernel
theorem d_Ru_combine_26 : decode b_Ru_combine 26 = .ok (.istore_n 2, 1) := by decide +kernel
theorem d_Ru_combine_27 : decode b_Ru_combine 27 = .ok (.iload_n 2, 1) := by decide +kernel
theorem d_Ru_combine_28 : decode b_Ru_combine 28 = .ok (.aload_n 0, 1) := by decide +kernel
theorem d_Ru_combine_29 : decode b_Ru_combine 29 = .ok (.getfield 107, 3) := by decide +kernel
theorem d_Ru_combine_32 : decode b_Ru_combine 32 = .ok (.getfield 148, 3) := by decide +kernel
theorem d_Ru_combine_35 : decode b_Ru_combine 35 = .ok (.if_icmp .ge 41, 3) := by decide +kernel
theorem d_Ru_combine_38 : decode b_Ru_combine 38 = .ok (.aload_n 0, 1) := by decide +kernel
theorem d_Ru_combine_39 : decode b_Ru_combine 39 = .ok (.getfield 107, 3) := by decide +kernel
theorem d_Ru_combine_42 : decode b_Ru_combine 42 = .ok (.getfield 151, 3) := by decide +kernel
theorem d_Ru_combine_45 : decode b_Ru_combine 45 = .ok (.iload_n 2, 1) := by decide +kernel
theorem d_Ru_combine_46 : decode b_Ru_combine 46 = .ok (.aaload, 1) := by decide +kernel
theorem d_Ru_combine_47 : decode b_Ru_combine 47 = .ok (.getfield 207, 3) := by decide +kernel
theorem d_Ru_combine_50 : decode b_Ru_combine 50 = .ok (.iload_n 1, 1) := by decide +kernel
theorem d_Ru_combine_51 : decode b_Ru_combine 51 = .ok (.if_icmp .ne 19, 3) := by decide +kernel
theorem d_Ru_combine_54 : decode b_Ru_combine 54 = .ok (.aload_n 0, 1) := by decide +kernel
theorem d_Ru_combine_55 : decode b_Ru_combine 55 = .ok (.getfield 107, 3) := by decide +kernel
theorem d_Ru_combine_58 : decode b_Ru_combine 58 = .ok (.getfield 151, 3) := by decide +kernel
theorem d_Ru_combine_61 : decode b_Ru_combine 61 = .ok (.iload_n 2, 1) := by decide +kernel
theorem d_Ru_combine_62 : decode b_Ru_combine 62 = .ok (.aaload, 1) := by decide +kernel
theorem d_Ru_combine_63 : decode b_Ru_combine 63 = .ok (.invokestatic 210, 3) := by decide +kernel
theorem d_Ru_combine_66 : decode b_Ru_combine 66 = .ok (.ifCond .ne 4, 3) := by decide +kernel
theorem d_Ru_combine_69 : decode b_Ru_combine 69 = .ok (.return_, 1) := by decide +kernel
theorem d_Ru_combine_70 : decode b_Ru_combine 70 = .ok (.iinc 2 1, 3) := by decide +kernel
theorem d_Ru_combine_73 : decode b_Ru_combine 73 = .ok (.goto (-46), 3) := by decide +kernel
theorem d_Ru_combine_76 : decode b_Ru_combine 76 = .ok (.iload_n 1, 1) := by decide +kernel
theorem d_Ru_combine_77 : decode b_Ru_combine 77 = .ok (.aload_n 0, 1) := by decide +kernel
theorem d_Ru_combine_78 : decode b_Ru_combine 78 = .ok (.getfield 107, 3) := by decide +kernel
theorem d_Ru_combine_81 : decode b_Ru_combine 81 = .ok (.getfield 137, 3) := by decide +kernel
theorem d_Ru_combine_84 : decode b_Ru_combine 84 = .ok (.if_icmp .lt 8, 3) := by decide +kernel
theorem d_Ru_combine_87 : decode b_Ru_combine 87 = .ok (.aload_n 0, 1) := by decide +kernel
theorem d_Ru_combine_88 : decode b_Ru_combine 88 = .ok (.invokevirtual 214, 3) := by decide +kernel
theorem d_Ru_combine_91 : decode b_Ru_combine 91 = .ok (.return_, 1) := by decide +kernel
theorem d_Ru_combine_92 : decode b_Ru_combine 92 = .ok (.aload_n 0, 1) := by decide +kernel
theorem d_Ru_combine_93 : decode b_Ru_combine 93 = .ok (.getfield 107, 3) := by decide +kernel
theorem d_Ru_combine_96 : decode b_Ru_combine 96 = .ok (.getfield 140, 3) := by decide +kernel
theorem d_Ru_combine_99 : decode b_Ru_combine 99 = .ok (.iload_n 1, 1) := by decide +kernel
theorem d_Ru_combine_100 : decode b_Ru_combine 100 = .ok (.aaload, 1) := by decide +kernel
theorem d_Ru_combine_101 : decode b_Ru_combine 101 = .ok (.astore_n 2, 1) := by decide +kernel
theorem d_Ru_combine_102 : decode b_Ru_combine 102 = .ok (.aload_n 2, 1) := by decide +kernel
theorem d_Ru_combine_103 : decode b_Ru_combine 103 = .ok (.getfield 175, 3) := by decide +kernel
theorem d_Ru_combine_106 : decode b_Ru_combine 106 = .ok (.istore_n 3, 1) := by decide +kernel
theorem d_Ru_combine_107 : decode b_Ru_combine 107 = .ok (.iload_n 3, 1) := by decide +kernel
theorem d_Ru_combine_108 : decode b_Ru_combine 108 = .ok (.aload_n 2, 1) := by decide +kernel
theorem d_Ru_combine_109 : decode b_Ru_combine 109 = .ok (.getfield 189, 3) := by decide +kernel
theorem d_Ru_combine_112 : decode b_Ru_combine 112 = .ok (.if_icmp .ge 29, 3) := by decide +kernel
theorem d_Ru_combine_115 : decode b_Ru_combine 115 = .ok (.aload_n 2, 1) := by decide +kernel
theorem d_Ru_combine_116 : decode b_Ru_combine 116 = .ok (.iload_n 3, 1) := by decide +kernel
theorem d_Ru_combine_117 : decode b_Ru_combine 117 = .ok (.putfield 217, 3) := by decide +kernel
theorem d_Ru_combine_120 : decode b_Ru_combine 120 = .ok (.aload_n 2, 1) := by decide +kernel
theorem d_Ru_combine_121 : decode b_Ru_combine 121 = .ok (.iload_n 3, 1) := by decide +kernel
theorem d_Ru_combine_122 : decode b_Ru_combine 122 = .ok (.invokevirtual 220, 3) := by decide +kernel
theorem d_Ru_combine_125 : decode b_Ru_combine 125 = .ok (.ifCond .ne 10, 3) := by decide +kernel
theorem d_Ru_combine_128 : decode b_Ru_combine 128 = .ok (.aload_n 0, 1) := by decide +kernel
theorem d_Ru_combine_129 : decode b_Ru_combine 129 = .ok (.iload_n 1, 1) := by decide +kernel
theorem d_Ru_combine_130 : decode b_Ru_combine 130 = .ok (.iconst 1, 1) := by decide +kernel
theorem d_Ru_combine_131 : decode b_Ru_combine 131 = .ok (.iadd, 1) := by decide +kernel
theorem d_Ru_combine_132 : decode b_Ru_combine 132 = .ok (.invokevirtual 161, 3) := by decide +kernel
theorem d_Ru_combine_135 : decode b_Ru_combine 135 = .ok (.iinc 3 1, 3) := by decide +kernel
theorem d_Ru_combine_138 : decode b_Ru_combine 138 = .ok (.goto (-31), 3) := by decide +kernel
theorem d_Ru_combine_141 : decode b_Ru_combine 141 = .ok (.return_, 1) := by decide +kernel
theorem d_Ru_giveGroups_0 : decode b_Ru_giveGroups 0 = .ok (.aload_n 0, 1) := by decide +kernel
theorem d_Ru_giveGroups_1 : decode b_Ru_giveGroups 1 = .ok (.getfield 119, 3) := by decide +kernel
theorem d_Ru_giveGroups_4 : decode b_Ru_giveGroups 4 = .ok (.ifCond .eq 14, 3) := by decide +kernel
theorem d_Ru_giveGroups_7 : decode b_Ru_giveGroups 7 = .ok (.new 94, 3) := by decide +kernel
theorem d_Ru_giveGroups_10 : decode b_Ru_giveGroups 10 = .ok (.dup, 1) := by decide +kernel
theorem d_Ru_giveGroups_11 : decode b_Ru_giveGroups 11 = .ok (.ldc_w 319, 3) := by decide +kernel
theorem d_Ru_giveGroups_14 : decode b_Ru_giveGroups 14 = .ok (.invokespecial 98, 3) := by decide +kernel
theorem d_Ru_giveGroups_17 : decode b_Ru_giveGroups 17 = .ok (.athrow, 1) := by decide +kernel
theorem d_Ru_giveGroups_18 : decode b_Ru_giveGroups 18 = .ok (.iconst 0, 1) := by decide +kernel
theorem d_Ru_giveGroups_19 : decode b_Ru_giveGroups 19 = .ok (.istore_n 1, 1) := by decide +kernel
theorem d_Ru_giveGroups_20 : decode b_Ru_giveGroups 20 = .ok (.iload_n 1, 1) := by decide +kernel
theorem d_Ru_giveGroups_21 : decode b_Ru_giveGroups 21 = .ok (.aload_n 0, 1) := by decide +kernel
theorem d_Ru_giveGroups_22 : decode b_Ru_giveGroups 22 = .ok (.getfield 125, 3) := by decide +kernel
theorem d_Ru_giveGroups_25 : decode b_Ru_giveGroups 25 = .ok (.if_icmp .ge 79, 3) := by decide +kernel
theorem d_Ru_giveGroups_28 : decode b_Ru_giveGroups 28 = .ok (.iconst 0, 1) := by decide +kernel
theorem d_Ru_giveGroups_29 : decode b_Ru_giveGroups 29 = .ok (.istore_n 2, 1) := by decide +kernel
theorem d_Ru_giveGroups_30 : decode b_Ru_giveGroups 30 = .ok (.iload_n 2, 1) := by decide +kernel
theorem d_Ru_giveGroups_31 : decode b_Ru_giveGroups 31 = .ok (.aload_n 0, 1) := by decide +kernel
theorem d_Ru_giveGroups_32 : decode b_Ru_giveGroups 32 = .ok (.getfield 107, 3) := by decide +kernel
theorem d_Ru_giveGroups_35 : decode b_Ru_giveGroups 35 = .ok (.getfield 131, 3) := by decide +kernel
theorem d_Ru_giveGroups_38 : decode b_Ru_giveGroups 38 = .ok (.if_icmp .ge 60, 3) := by decide +kernel
theorem d_Ru_giveGroups_41 : decode b_Ru_giveGroups 41 = .ok (.iload_n 1, 1) := by decide +kernel
theorem d_Ru_giveGroups_42 : decode b_Ru_giveGroups 42 = .ok (.iconst 4, 1) := by decide +kernel
theorem d_Ru_giveGroups_43 : decode b_Ru_giveGroups 43 = .ok (.imul, 1) := by decide +kernel
theorem d_Ru_giveGroups_44 : decode b_Ru_giveGroups 44 = .ok (.iload_n 2, 1) := by decide +kernel
theorem d_Ru_giveGroups_45 : decode b_Ru_giveGroups 45 = .ok (.iadd, 1) := by decide +kernel
theorem d_Ru_giveGroups_46 : decode b_Ru_giveGroups 46 = .ok (.istore_n 3, 1) := by decide +kernel
theorem d_Ru_giveGroups_47 : decode b_Ru_giveGroups 47 = .ok (.aload_n 0, 1) := by decide +kernel
theorem d_Ru_giveGroups_48 : decode b_Ru_giveGroups 48 = .ok (.getfield 34, 3) := by decide +kernel
theorem d_Ru_giveGroups_51 : decode b_Ru_giveGroups 51 = .ok (.iload_n 3, 1) := by decide +kernel
theorem d_Ru_giveGroups_52 : decode b_Ru_giveGroups 52 = .ok (.iaload, 1) := by decide +kernel
theorem d_Ru_giveGroups_53 : decode b_Ru_giveGroups 53 = .ok (.ifCond .le 39, 3) := by decide +kernel
theorem d_Ru_giveGroups_56 : decode b_Ru_giveGroups 56 = .ok (.aload_n 0, 1) := by decide +kernel
theorem d_Ru_giveGroups_57 : decode b_Ru_giveGroups 57 = .ok (.getfield 31, 3) := by decide +kernel
theorem d_Ru_giveGroups_60 : decode b_Ru_giveGroups 60 = .ok (.iload_n 3, 1) := by decide +kernel
theorem d_Ru_giveGroups_61 : decode b_Ru_giveGroups 61 = .ok (.laload, 1) := by decide +kernel
theorem d_Ru_giveGroups_62 : decode b_Ru_giveGroups 62 = .ok (.ldc2_w 254, 3) := by decide +kernel
theorem d_Ru_giveGroups_65 : decode b_Ru_giveGroups 65 = .ok (.lcmp, 1) := by decide +kernel
theorem d_Ru_giveGroups_66 : decode b_Ru_giveGroups 66 = .ok (.ifCond .eq 15, 3) := by decide +kernel
theorem d_Ru_giveGroups_69 : decode b_Ru_giveGroups 69 = .ok (.aload_n 0, 1) := by decide +kernel
theorem d_Ru_giveGroups_70 : decode b_Ru_giveGroups 70 = .ok (.getfield 31, 3) := by decide +kernel
theorem d_Ru_giveGroups_73 : decode b_Ru_giveGroups 73 = .ok (.iload_n 3, 1) := by decide +kernel
theorem d_Ru_giveGroups_74 : decode b_Ru_giveGroups 74 = .ok (.laload, 1) := by decide +kernel
theorem d_Ru_giveGroups_75 : decode b_Ru_giveGroups 75 = .ok (.invokestatic 279, 3) := by decide +kernel
theorem d_Ru_giveGroups_78 : decode b_Ru_giveGroups 78 = .ok (.ifCond .eq 14, 3) := by decide +kernel
theorem d_Ru_giveGroups_81 : decode b_Ru_giveGroups 81 = .ok (.new 283, 3) := by decide +kernel
theorem d_Ru_giveGroups_84 : decode b_Ru_giveGroups 84 = .ok (.dup, 1) := by decide +kernel
theorem d_Ru_giveGroups_85 : decode b_Ru_giveGroups 85 = .ok (.ldc_w 321, 3) := by decide +kernel
theorem d_Ru_giveGroups_88 : decode b_Ru_giveGroups 88 = .ok (.invokespecial 287, 3) := by decide +kernel
theorem d_Ru_giveGroups_91 : decode b_Ru_giveGroups 91 = .ok (.athrow, 1) := by decide +kernel
theorem d_Ru_giveGroups_92 : decode b_Ru_giveGroups 92 = .ok (.iinc 2 1, 3) := by decide +kernel
theorem d_Ru_giveGroups_95 : decode b_Ru_giveGroups 95 = .ok (.goto (-65), 3) := by decide +kernel
theorem d_Ru_giveGroups_98 : decode b_Ru_giveGroups 98 = .ok (.iinc 1 1, 3) := by decide +kernel
theorem d_Ru_giveGroups_101 : decode b_Ru_giveGroups 101 = .ok (.goto (-81), 3) := by decide +kernel
theorem d_Ru_giveGroups_104 : decode b_Ru_giveGroups 104 = .ok (.iconst 0, 1) := by decide +kernel
theorem d_Ru_giveGroups_105 : decode b_Ru_giveGroups 105 = .ok (.istore_n 1, 1) := by decide +kernel
theorem d_Ru_giveGroups_106 : decode b_Ru_giveGroups 106 = .ok (.iload_n 1, 1) := by decide +kernel
theorem d_Ru_giveGroups_107 : decode b_Ru_giveGroups 107 = .ok (.aload_n 0, 1) := by decide +kernel
theorem d_Ru_giveGroups_108 : decode b_Ru_giveGroups 108 = .ok (.getfield 125, 3) := by decide +kernel
theorem d_Ru_giveGroups_111 : decode b_Ru_giveGroups 111 = .ok (.if_icmp .ge 104, 3) := by decide +kernel
theorem d_Ru_giveGroups_114 : decode b_Ru_giveGroups 114 = .ok (.iconst 0, 1) := by decide +kernel
theorem d_Ru_giveGroups_115 : decode b_Ru_giveGroups 115 = .ok (.istore_n 2, 1) := by decide +kernel
theorem d_Ru_giveGroups_116 : decode b_Ru_giveGroups 116 = .ok (.iload_n 2, 1) := by decide +kernel
theorem d_Ru_giveGroups_117 : decode b_Ru_giveGroups 117 = .ok (.aload_n 0, 1) := by decide +kernel
theorem d_Ru_giveGroups_118 : decode b_Ru_giveGroups 118 = .ok (.getfield 107, 3) := by decide +kernel
theorem d_Ru_giveGroups_121 : decode b_Ru_giveGroups 121 = .ok (.getfield 131, 3) := by decide +kernel
theorem d_Ru_giveGroups_124 : decode b_Ru_giveGroups 124 = .ok (.if_icmp .ge 81, 3) := by decide +kernel
theorem d_Ru_giveGroups_127 : decode b_Ru_giveGroups 127 = .ok (.iload_n 1, 1) := by decide +kernel
theorem d_Ru_giveGroups_128 : decode b_Ru_giveGroups 128 = .ok (.iconst 4, 1) := by decide +kernel
theorem d_Ru_giveGroups_129 : decode b_Ru_giveGroups 129 = .ok (.imul, 1) := by decide +kernel
theorem d_Ru_giveGroups_130 : decode b_Ru_giveGroups 130 = .ok (.iload_n 2, 1) := by decide +kernel
theorem d_Ru_giveGroups_131 : decode b_Ru_giveGroups 131 = .ok (.iadd, 1) := by decide +kernel
theorem d_Ru_giveGroups_132 : decode b_Ru_giveGroups 132 = .ok (.istore_n 3, 1) := by decide +kernel
theorem d_Ru_giveGroups_133 : decode b_Ru_giveGroups 133 = .ok (.aload_n 0, 1) := by decide +kernel
theorem d_Ru_giveGroups_134 : decode b_Ru_giveGroups 134 = .ok (.getfield 107, 3) := by decide +kernel
theorem d_Ru_giveGroups_137 : decode b_Ru_giveGroups 137 = .ok (.getfield 272, 3) := by decide +kernel
theorem d_Ru_giveGroups_140 : decode b_Ru_giveGroups 140 = .ok (.iload_n 2, 1) := by decide +kernel
theorem d_Ru_giveGroups_141 : decode b_Ru_giveGroups 141 = .ok (.aaload, 1) := by decide +kernel
theorem d_Ru_giveGroups_142 : decode b_Ru_giveGroups 142 = .ok (.ifnull 18, 3) := by decide +kernel
theorem d_Ru_giveGroups_145 : decode b_Ru_giveGroups 145 = .ok (.aload_n 0, 1) := by decide +kernel
theorem d_Ru_giveGroups_146 : decode b_Ru_giveGroups 146 = .ok (.getfield 107, 3) := by decide +kernel
theorem d_Ru_giveGroups_149 : decode b_Ru_giveGroups 149 = .ok (.getfield 272, 3) := by decide +kernel
theorem d_Ru_giveGroups_152 : decode b_Ru_giveGroups 152 = .ok (.iload_n 2, 1) := by decide +kernel
theorem d_Ru_giveGroups_153 : decode b_Ru_giveGroups 153 = .ok (.aaload, 1) := by decide +kernel
theorem d_Ru_giveGroups_154 : decode b_Ru_giveGroups 154 = .ok (.getstatic 297, 3) := by decide +kernel
theorem d_Ru_giveGroups_157 : decode b_Ru_giveGroups 157 = .ok (.if_acmp .ne 7, 3) := by decide +kernel
theorem d_Ru_giveGroups_160 : decode b_Ru_giveGroups 160 = .ok (.iconst 1, 1) := by decide +kernel
theorem d_Ru_giveGroups_161 : decode b_Ru_giveGroups 161 = .ok (.goto 4, 3) := by decide +kernel
theorem d_Ru_giveGroups_164 : decode b_Ru_giveGroups 164 = .ok (.iconst 0, 1) := by decide +kernel
theorem d_Ru_giveGroups_165 : decode b_Ru_giveGroups 165 = .ok (.istore 4, 2) := by decide +kernel
theorem d_Ru_giveGroups_167 : decode b_Ru_giveGroups 167 = .ok (.aload_n 0, 1) := by decide +kernel
theorem d_Ru_giveGroups_168 : decode b_Ru_giveGroups 168 = .ok (.getfield 28, 3) := by decide +kernel
theorem d_Ru_giveGroups_171 : decode b_Ru_giveGroups 171 = .ok (.iload_n 2, 1) := by decide +kernel
theorem d_Ru_giveGroups_172 : decode b_Ru_giveGroups 172 = .ok (.iload 4, 2) := by decide +kernel
theorem d_Ru_giveGroups_174 : decode b_Ru_giveGroups 174 = .ok (.ifCond .ne 12, 3) := by decide +kernel
theorem d_Ru_giveGroups_177 : decode b_Ru_giveGroups 177 = .ok (.aload_n 0, 1) := by decide +kernel
theorem d_Ru_giveGroups_178 : decode b_Ru_giveGroups 178 = .ok (.getfield 34, 3) := by decide +kernel
theorem d_Ru_giveGroups_181 : decode b_Ru_giveGroups 181 = .ok (.iload_n 3, 1) := by decide +kernel
theorem d_Ru_giveGroups_182 : decode b_Ru_giveGroups 182 = .ok (.iaload, 1) := by decide +kernel
theorem d_Ru_giveGroups_183 : decode b_Ru_giveGroups 183 = .ok (.ifCond .le 12, 3) := by decide +kernel
theorem d_Ru_giveGroups_186 : decode b_Ru_giveGroups 186 = .ok (.aload_n 0, 1) := by decide +kernel
theorem d_Ru_giveGroups_187 : decode b_Ru_giveGroups 187 = .ok (.getfield 31, 3) := by decide +kernel
theorem d_Ru_giveGroups_190 : decode b_Ru_giveGroups 190 = .ok (.iload_n 3, 1) := by decide +kernel
theorem d_Ru_giveGroups_191 : decode b_Ru_giveGroups 191 = .ok (.laload, 1) := by decide +kernel
theorem d_Ru_giveGroups_192 : decode b_Ru_giveGroups 192 = .ok (.goto 6, 3) := by decide +kernel
theorem d_Ru_giveGroups_195 : decode b_Ru_giveGroups 195 = .ok (.ldc2_w 254, 3) := by decide +kernel
theorem d_Ru_giveGroups_198 : decode b_Ru_giveGroups 198 = .ok (.lastore, 1) := by decide +kernel
theorem d_Ru_giveGroups_199 : decode b_Ru_giveGroups 199 = .ok (.iinc 2 1, 3) := by decide +kernel
theorem d_Ru_giveGroups_202 : decode b_Ru_giveGroups 202 = .ok (.goto (-86), 3) := by decide +kernel
theorem d_Ru_giveGroups_205 : decode b_Ru_giveGroups 205 = .ok (.aload_n 0, 1) := by decide +kernel
theorem d_Ru_giveGroups_206 : decode b_Ru_giveGroups 206 = .ok (.invokevirtual 291, 3) := by decide +kernel
theorem d_Ru_giveGroups_209 : decode b_Ru_giveGroups 209 = .ok (.iinc 1 1, 3) := by decide +kernel
theorem d_Ru_giveGroups_212 : decode b_Ru_giveGroups 212 = .ok (.goto (-106), 3) := by decide +kernel
theorem d_Ru_giveGroups_215 : decode b_Ru_giveGroups 215 = .ok (.return_, 1) := by decide +kernel
theorem d_Ru_work_0 : decode b_Ru_work 0 = .ok (.aload_n 0, 1) := by decide +kernel
theorem d_Ru_work_1 : decode b_Ru_work 1 = .ok (.aload_n 1, 1) := by decide +kernel
theorem d_Ru_work_2 : decode b_Ru_work 2 = .ok (.putfield 107, 3) := by decide +kernel
theorem d_Ru_work_5 : decode b_Ru_work 5 = .ok (.aload_n 0, 1) := by decide +kernel
theorem d_Ru_work_6 : decode b_Ru_work 6 = .ok (.iload_n 2, 1) := by decide +kernel
theorem d_Ru_work_7 : decode b_Ru_work 7 = .ok (.aload_n 0, 1) := by decide +kernel
theorem d_Ru_work_8 : decode b_Ru_work 8 = .ok (.getfield 40, 3) := by decide +kernel
theorem d_Ru_work_11 : decode b_Ru_work 11 = .ok (.getfield 64, 3) := by decide +kernel
theorem d_Ru_work_14 : decode b_Ru_work 14 = .ok (.if_icmp .ge 15, 3) := by decide +kernel
theorem d_Ru_work_17 : decode b_Ru_work 17 = .ok (.aload_n 0, 1) := by decide +kernel
theorem d_Ru_work_18 : decode b_Ru_work 18 = .ok (.getfield 40, 3) := by decide +kernel
theorem d_Ru_work_21 : decode b_Ru_work 21 = .ok (.getfield 69, 3) := by decide +kernel
theorem d_Ru_work_24 : decode b_Ru_work 24 = .ok (.iload_n 2, 1) := by decide +kernel
theorem d_Ru_work_25 : decode b_Ru_work 25 = .ok (.aaload, 1) := by decide +kernel
theorem d_Ru_work_26 : decode b_Ru_work 26 = .ok (.goto 4, 3) := by decide +kernel
theorem d_Ru_work_29 : decode b_Ru_work 29 = .ok (.aconst_null, 1) := by decide +kernel
theorem d_Ru_work_30 : decode b_Ru_work 30 = .ok (.putfield 111, 3) := by decide +kernel
theorem d_Ru_work_33 : decode b_Ru_work 33 = .ok (.aload_n 0, 1) := by decide +kernel
theorem d_Ru_work_34 : decode b_Ru_work 34 = .ok (.aload_n 0, 1) := by decide +kernel
theorem d_Ru_work_35 : decode b_Ru_work 35 = .ok (.getfield 11, 3) := by decide +kernel
theorem d_Ru_work_38 : decode b_Ru_work 38 = .ok (.iload_n 2, 1) := by decide +kernel
theorem d_Ru_work_39 : decode b_Ru_work 39 = .ok (.aaload, 1) := by decide +kernel
theorem d_Ru_work_40 : decode b_Ru_work 40 = .ok (.putfield 115, 3) := by decide +kernel
theorem d_Ru_work_43 : decode b_Ru_work 43 = .ok (.aload_n 0, 1) := by decide +kernel
theorem d_Ru_work_44 : decode b_Ru_work 44 = .ok (.iconst 0, 1) := by decide +kernel
theorem d_Ru_work_45 : decode b_Ru_work 45 = .ok (.putfield 119, 3) := by decide +kernel
theorem d_Ru_work_48 : decode b_Ru_work 48 = .ok (.aload_n 0, 1) := by decide +kernel
theorem d_Ru_work_49 : decode b_Ru_work 49 = .ok (.iconst 0, 1) := by decide +kernel
theorem d_Ru_work_50 : decode b_Ru_work 50 = .ok (.putfield 122, 3) := by decide +kernel
theorem d_Ru_work_53 : decode b_Ru_work 53 = .ok (.aload_n 0, 1) := by decide +kernel
theorem d_Ru_work_54 : decode b_Ru_work 54 = .ok (.iconst 0, 1) := by decide +kernel
theorem d_Ru_work_55 : decode b_Ru_work 55 = .ok (.putfield 125, 3) := by decide +kernel
theorem d_Ru_work_58 : decode b_Ru_work 58 = .ok (.aload_n 1, 1) := by decide +kernel
theorem d_Ru_work_59 : decode b_Ru_work 59 = .ok (.getfield 128, 3) := by decide +kernel
theorem d_Ru_work_62 : decode b_Ru_work 62 = .ok (.aload_n 1, 1) := by decide +kernel
theorem d_Ru_work_63 : decode b_Ru_work 63 = .ok (.getfield 131, 3) := by decide +kernel
theorem d_Ru_work_66 : decode b_Ru_work 66 = .ok (.if_icmp .ne 7, 3) := by decide +kernel
theorem d_Ru_work_69 : decode b_Ru_work 69 = .ok (.aload_n 0, 1) := by decide +kernel
theorem d_Ru_work_70 : decode b_Ru_work 70 = .ok (.invokevirtual 134, 3) := by decide +kernel
theorem d_Ru_work_73 : decode b_Ru_work 73 = .ok (.iconst 0, 1) := by decide +kernel
theorem d_Ru_work_74 : decode b_Ru_work 74 = .ok (.istore_n 3, 1) := by decide +kernel
theorem d_Ru_work_75 : decode b_Ru_work 75 = .ok (.iload_n 3, 1) := by decide +kernel
theorem d_Ru_work_76 : decode b_Ru_work 76 = .ok (.aload_n 1, 1) := by decide +kernel
theorem d_Ru_work_77 : decode b_Ru_work 77 = .ok (.getfield 137, 3) := by decide +kernel
theorem d_Ru_work_80 : decode b_Ru_work 80 = .ok (.if_icmp .ge 19, 3) := by decide +kernel
theorem d_Ru_work_83 : decode b_Ru_work 83 = .ok (.aload_n 0, 1) := by decide +kernel
theorem d_Ru_work_84 : decode b_Ru_work 84 = .ok (.aload_n 1, 1) := by decide +kernel
theorem d_Ru_work_85 : decode b_Ru_work 85 = .ok (.getfield 140, 3) := by decide +kernel
theorem d_Ru_work_88 : decode b_Ru_work 88 = .ok (.iload_n 3, 1) := by decide +kernel
theorem d_Ru_work_89 : decode b_Ru_work 89 = .ok (.aaload, 1) := by decide +kernel
theorem d_Ru_work_90 : decode b_Ru_work 90 = .ok (.invokevirtual 144, 3) := by decide +kernel
theorem d_Ru_work_93 : decode b_Ru_work 93 = .ok (.iinc 3 1, 3) := by decide +kernel
theorem d_Ru_work_96 : decode b_Ru_work 96 = .ok (.goto (-21), 3) := by decide +kernel
theorem d_Ru_work_99 : decode b_Ru_work 99 = .ok (.iconst 0, 1) := by decide +kernel
theorem d_Ru_work_100 : decode b_Ru_work 100 = .ok (.istore_n 3, 1) := by decide +kernel
theorem d_Ru_work_101 : decode b_Ru_work 101 = .ok (.iload_n 3, 1) := by decide +kernel
theorem d_Ru_work_102 : decode b_Ru_work 102 = .ok (.aload_n 1, 1) := by decide +kernel
theorem d_Ru_work_103 : decode b_Ru_work 103 = .ok (.getfield 148, 3) := by decide +kernel
theorem d_Ru_work_106 : decode b_Ru_work 106 = .ok (.if_icmp .ge 34, 3) := by decide +kernel
theorem d_Ru_work_109 : decode b_Ru_work 109 = .ok (.aload_n 1, 1) := by decide +kernel
theorem d_Ru_work_110 : decode b_Ru_work 110 = .ok (.getfield 151, 3) := by decide +kernel
theorem d_Ru_work_113 : decode b_Ru_work 113 = .ok (.iload_n 3, 1) := by decide +kernel
theorem d_Ru_work_114 : decode b_Ru_work 114 = .ok (.aaload, 1) := by decide +kernel
theorem d_Ru_work_115 : decode b_Ru_work 115 = .ok (.getfield 155, 3) := by decide +kernel
theorem d_Ru_work_118 : decode b_Ru_work 118 = .ok (.ifnull 16, 3) := by decide +kernel
theorem d_Ru_work_121 : decode b_Ru_work 121 = .ok (.aload_n 0, 1) := by decide +kernel
theorem d_Ru_work_122 : decode b_Ru_work 122 = .ok (.aload_n 1, 1) := by decide +kernel
theorem d_Ru_work_123 : decode b_Ru_work 123 = .ok (.getfield 151, 3) := by decide +kernel
theorem d_Ru_work_126 : decode b_Ru_work 126 = .ok (.iload_n 3, 1) := by decide +kernel
theorem d_Ru_work_127 : decode b_Ru_work 127 = .ok (.aaload, 1) := by decide +kernel
theorem d_Ru_work_128 : decode b_Ru_work 128 = .ok (.getfield 155, 3) := by decide +kernel
theorem d_Ru_work_131 : decode b_Ru_work 131 = .ok (.invokevirtual 144, 3) := by decide +kernel
theorem d_Ru_work_134 : decode b_Ru_work 134 = .ok (.iinc 3 1, 3) := by decide +kernel
theorem d_Ru_work_137 : decode b_Ru_work 137 = .ok (.goto (-36), 3) := by decide +kernel
theorem d_Ru_work_140 : decode b_Ru_work 140 = .ok (.aload_n 0, 1) := by decide +kernel
theorem d_Ru_work_141 : decode b_Ru_work 141 = .ok (.iconst 0, 1) := by decide +kernel
theorem d_Ru_work_142 : decode b_Ru_work 142 = .ok (.invokevirtual 161, 3) := by decide +kernel
theorem d_Ru_work_145 : decode b_Ru_work 145 = .ok (.aload_n 1, 1) := by decide +kernel
theorem d_Ru_work_146 : decode b_Ru_work 146 = .ok (.getfield 128, 3) := by decide +kernel
theorem d_Ru_work_149 : decode b_Ru_work 149 = .ok (.ifCond .le 7, 3) := by decide +kernel
theorem d_Ru_work_152 : decode b_Ru_work 152 = .ok (.aload_n 0, 1) := by decide +kernel
theorem d_Ru_work_153 : decode b_Ru_work 153 = .ok (.invokevirtual 165, 3) := by decide +kernel
theorem d_Ru_work_156 : decode b_Ru_work 156 = .ok (.aload_n 0, 1) := by decide +kernel
theorem d_Ru_work_157 : decode b_Ru_work 157 = .ok (.getfield 122, 3) := by decide +kernel
theorem d_Ru_work_160 : decode b_Ru_work 160 = .ok (.ifCond .eq 13, 3) := by decide +kernel
theorem d_Ru_work_163 : decode b_Ru_work 163 = .ok (.new 94, 3) := by decide +kernel
theorem d_Ru_work_166 : decode b_Ru_work 166 = .ok (.dup, 1) := by decide +kernel
theorem d_Ru_work_167 : decode b_Ru_work 167 = .ok (.ldc 168, 2) := by decide +kernel
theorem d_Ru_work_169 : decode b_Ru_work 169 = .ok (.invokespecial 98, 3) := by decide +kernel
theorem d_Ru_work_172 : decode b_Ru_work 172 = .ok (.athrow, 1) := by decide +kernel
theorem d_Ru_work_173 : decode b_Ru_work 173 = .ok (.return_, 1) := by decide +kernel
theorem d_Ru_component_0 : decode b_Ru_component 0 = .ok (.iconst 1, 1) := by decide +kernel
theorem d_Ru_component_1 : decode b_Ru_component 1 = .ok (.istore_n 2, 1) := by decide +kernel
theorem d_Ru_component_2 : decode b_Ru_component 2 = .ok (.iload_n 2, 1) := by decide +kernel
theorem d_Ru_component_3 : decode b_Ru_component 3 = .ok (.aload_n 0, 1) := by decide +kernel
theorem d_Ru_component_4 : decode b_Ru_component 4 = .ok (.getfield 47, 3) := by decide +kernel
theorem d_Ru_component_7 : decode b_Ru_component 7 = .ok (.if_icmp .gt 156, 3) := by decide +kernel
theorem d_Ru_component_10 : decode b_Ru_component 10 = .ok (.aload_n 0, 1) := by decide +kernel
theorem d_Ru_component_11 : decode b_Ru_component 11 = .ok (.getfield 54, 3) := by decide +kernel
theorem d_Ru_component_14 : decode b_Ru_component 14 = .ok (.istore_n 3, 1) := by decide +kernel
theorem d_Ru_component_15 : decode b_Ru_component 15 = .ok (.aload_n 0, 1) := by decide +kernel
theorem d_Ru_component_16 : decode b_Ru_component 16 = .ok (.iload_n 1, 1) := by decide +kernel
theorem d_Ru_component_17 : decode b_Ru_component 17 = .ok (.invokevirtual 60, 3) := by decide +kernel
theorem d_Ru_component_20 : decode b_Ru_component 20 = .ok (.istore 4, 2) := by decide +kernel
theorem d_Ru_component_22 : decode b_Ru_component 22 = .ok (.iconst 0, 1) := by decide +kernel
theorem d_Ru_component_23 : decode b_Ru_component 23 = .ok (.istore 5, 2) := by decide +kernel
theorem d_Ru_component_25 : decode b_Ru_component 25 = .ok (.iload 5, 2) := by decide +kernel
theorem d_Ru_component_27 : decode b_Ru_component 27 = .ok (.aload_n 0, 1) := by decide +kernel
theorem d_Ru_component_28 : decode b_Ru_component 28 = .ok (.getfield 40, 3) := by decide +kernel
theorem d_Ru_component_31 : decode b_Ru_component 31 = .ok (.getfield 64, 3) := by decide +kernel
theorem d_Ru_component_34 : decode b_Ru_component 34 = .ok (.if_icmp .ge 82, 3) := by decide +kernel
theorem d_Ru_component_37 : decode b_Ru_component 37 = .ok (.aload_n 0, 1) := by decide +kernel
theorem d_Ru_component_38 : decode b_Ru_component 38 = .ok (.getfield 40, 3) := by decide +kernel
theorem d_Ru_component_41 : decode b_Ru_component 41 = .ok (.getfield 69, 3) := by decide +kernel
theorem d_Ru_component_44 : decode b_Ru_component 44 = .ok (.iload 5, 2) := by decide +kernel
theorem d_Ru_component_46 : decode b_Ru_component 46 = .ok (.aaload, 1) := by decide +kernel
theorem d_Ru_component_47 : decode b_Ru_component 47 = .ok (.astore 6, 2) := by decide +kernel
theorem d_Ru_component_49 : decode b_Ru_component 49 = .ok (.iconst 0, 1) := by decide +kernel
theorem d_Ru_component_50 : decode b_Ru_component 50 = .ok (.istore 7, 2) := by decide +kernel
theorem d_Ru_component_52 : decode b_Ru_component 52 = .ok (.iload 7, 2) := by decide +kernel
theorem d_Ru_component_54 : decode b_Ru_component 54 = .ok (.aload 6, 2) := by decide +kernel
theorem d_Ru_component_56 : decode b_Ru_component 56 = .ok (.getfield 73, 3) := by decide +kernel
theorem d_Ru_component_59 : decode b_Ru_component 59 = .ok (.if_icmp .ge 51, 3) := by decide +kernel
theorem d_Ru_component_62 : decode b_Ru_component 62 = .ok (.aload 6, 2) := by decide +kernel
theorem d_Ru_component_64 : decode b_Ru_component 64 = .ok (.getfield 78, 3) := by decide +kernel
theorem d_Ru_component_67 : decode b_Ru_component 67 = .ok (.iload_n 1, 1) := by decide +kernel
theorem d_Ru_component_68 : decode b_Ru_component 68 = .ok (.if_icmp .ne 42, 3) := by decide +kernel
theorem d_Ru_component_71 : decode b_Ru_component 71 = .ok (.iload_n 2, 1) := by decide +kernel
theorem d_Ru_component_72 : decode b_Ru_component 72 = .ok (.iconst 1, 1) := by decide +kernel
theorem d_Ru_component_73 : decode b_Ru_component 73 = .ok (.if_icmp .eq 17, 3) := by decide +kernel
theorem d_Ru_component_76 : decode b_Ru_component 76 = .ok (.aload 6, 2) := by decide +kernel
theorem d_Ru_component_78 : decode b_Ru_component 78 = .ok (.getfield 81, 3) := by decide +kernel
theorem d_Ru_component_81 : decode b_Ru_component 81 = .ok (.iload 7, 2) := by decide +kernel
theorem d_Ru_component_83 : decode b_Ru_component 83 = .ok (.aaload, 1) := by decide +kernel
theorem d_Ru_component_84 : decode b_Ru_component 84 = .ok (.getfield 85, 3) := by decide +kernel
theorem d_Ru_component_87 : decode b_Ru_component 87 = .ok (.ifCond .le 17, 3) := by decide +kernel
theorem d_Ru_component_90 : decode b_Ru_component 90 = .ok (.aload_n 0, 1) := by decide +kernel
theorem d_Ru_component_91 : decode b_Ru_component 91 = .ok (.aload 6, 2) := by decide +kernel
theorem d_Ru_component_93 : decode b_Ru_component 93 = .ok (.getfield 81, 3) := by decide +kernel
theorem d_Ru_component_96 : decode b_Ru_component 96 = .ok (.iload 7, 2) := by decide +kernel
theorem d_Ru_component_98 : decode b_Ru_component 98 = .ok (.aaload, 1) := by decide +kernel
theorem d_Ru_component_99 : decode b_Ru_component 99 = .ok (.iload 5, 2) := by decide +kernel
theorem d_Ru_component_101 : decode b_Ru_component 101 = .ok (.invokevirtual 90, 3) := by decide +kernel
theorem d_Ru_component_104 : decode b_Ru_component 104 = .ok (.iinc 7 1, 3) := by decide +kernel
theorem d_Ru_component_107 : decode b_Ru_component 107 = .ok (.goto (-55), 3) := by decide +kernel
theorem d_Ru_component_110 : decode b_Ru_component 110 = .ok (.iinc 5 1, 3) := by decide +kernel
theorem d_Ru_component_113 : decode b_Ru_component 113 = .ok (.goto (-88), 3) := by decide +kernel
theorem d_Ru_component_116 : decode b_Ru_component 116 = .ok (.aload_n 0, 1) := by decide +kernel
theorem d_Ru_component_117 : decode b_Ru_component 117 = .ok (.getfield 17, 3) := by decide +kernel
theorem d_Ru_component_120 : decode b_Ru_component 120 = .ok (.iload_n 1, 1) := by decide +kernel
theorem d_Ru_component_121 : decode b_Ru_component 121 = .ok (.bipush 31, 2) := by decide +kernel
theorem d_Ru_component_123 : decode b_Ru_component 123 = .ok (.imul, 1) := by decide +kernel
theorem d_Ru_component_124 : decode b_Ru_component 124 = .ok (.iload_n 2, 1) := by decide +kernel
theorem d_Ru_component_125 : decode b_Ru_component 125 = .ok (.iastore, 1) := by decide +kernel
theorem d_Ru_component_126 : decode b_Ru_component 126 = .ok (.aload_n 0, 1) := by decide +kernel
theorem d_Ru_component_127 : decode b_Ru_component 127 = .ok (.getfield 17, 3) := by decide +kernel
theorem d_Ru_component_130 : decode b_Ru_component 130 = .ok (.iload_n 1, 1) := by decide +kernel
theorem d_Ru_component_131 : decode b_Ru_component 131 = .ok (.bipush 31, 2) := by decide +kernel
theorem d_Ru_component_133 : decode b_Ru_component 133 = .ok (.imul, 1) := by decide +kernel
theorem d_Ru_component_134 : decode b_Ru_component 134 = .ok (.iload_n 2, 1) := by decide +kernel
theorem d_Ru_component_135 : decode b_Ru_component 135 = .ok (.iadd, 1) := by decide +kernel
theorem d_Ru_component_136 : decode b_Ru_component 136 = .ok (.aload_n 0, 1) := by decide +kernel
theorem d_Ru_component_137 : decode b_Ru_component 137 = .ok (.getfield 54, 3) := by decide +kernel
theorem d_Ru_component_140 : decode b_Ru_component 140 = .ok (.iload_n 3, 1) := by decide +kernel
theorem d_Ru_component_141 : decode b_Ru_component 141 = .ok (.isub, 1) := by decide +kernel
theorem d_Ru_component_142 : decode b_Ru_component 142 = .ok (.iastore, 1) := by decide +kernel
theorem d_Ru_component_143 : decode b_Ru_component 143 = .ok (.iload 4, 2) := by decide +kernel
theorem d_Ru_component_145 : decode b_Ru_component 145 = .ok (.ifCond .eq 11, 3) := by decide +kernel
theorem d_Ru_component_148 : decode b_Ru_component 148 = .ok (.aload_n 0, 1) := by decide +kernel
theorem d_Ru_component_149 : decode b_Ru_component 149 = .ok (.getfield 54, 3) := by decide +kernel
theorem d_Ru_component_152 : decode b_Ru_component 152 = .ok (.iload_n 3, 1) := by decide +kernel
theorem d_Ru_component_153 : decode b_Ru_component 153 = .ok (.if_icmp .ne 4, 3) := by decide +kernel
theorem d_Ru_component_156 : decode b_Ru_component 156 = .ok (.return_, 1) := by decide +kernel
theorem d_Ru_component_157 : decode b_Ru_component 157 = .ok (.iinc 2 1, 3) := by decide +kernel
theorem d_Ru_component_160 : decode b_Ru_component 160 = .ok (.goto (-158), 3) := by decide +kernel
theorem d_Ru_component_163 : decode b_Ru_component 163 = .ok (.new 94, 3) := by decide +kernel
theorem d_Ru_component_166 : decode b_Ru_component 166 = .ok (.dup, 1) := by decide +kernel
theorem d_Ru_component_167 : decode b_Ru_component 167 = .ok (.ldc 96, 2) := by decide +kernel
theorem d_Ru_component_169 : decode b_Ru_component 169 = .ok (.invokespecial 98, 3) := by decide +kernel
theorem d_Ru_component_172 : decode b_Ru_component 172 = .ok (.athrow, 1) := by decide +kernel
theorem d_Ru_compareKeys_0 : decode b_Ru_compareKeys 0 = .ok (.aload_n 1, 1) := by decide +kernel
theorem d_Ru_compareKeys_1 : decode b_Ru_compareKeys 1 = .ok (.getfield 357, 3) := by decide +kernel
theorem d_Ru_compareKeys_4 : decode b_Ru_compareKeys 4 = .ok (.iconst 4, 1) := by decide +kernel
theorem d_Ru_compareKeys_5 : decode b_Ru_compareKeys 5 = .ok (.if_icmp .eq 10, 3) := by decide +kernel
theorem d_Ru_compareKeys_8 : decode b_Ru_compareKeys 8 = .ok (.lload_n 2, 1) := by decide +kernel
theorem d_Ru_compareKeys_9 : decode b_Ru_compareKeys 9 = .ok (.lload 4, 2) := by decide +kernel
theorem d_Ru_compareKeys_11 : decode b_Ru_compareKeys 11 = .ok (.invokestatic 372, 3) := by decide +kernel
theorem d_Ru_compareKeys_14 : decode b_Ru_compareKeys 14 = .ok (.ireturn, 1) := by decide +kernel
theorem d_Ru_compareKeys_15 : decode b_Ru_compareKeys 15 = .ok (.aload_n 0, 1) := by decide +kernel
theorem d_Ru_compareKeys_16 : decode b_Ru_compareKeys 16 = .ok (.getfield 11, 3) := by decide +kernel
theorem d_Ru_compareKeys_19 : decode b_Ru_compareKeys 19 = .ok (.aload_n 1, 1) := by decide +kernel
theorem d_Ru_compareKeys_20 : decode b_Ru_compareKeys 20 = .ok (.getfield 360, 3) := by decide +kernel
theorem d_Ru_compareKeys_23 : decode b_Ru_compareKeys 23 = .ok (.getfield 178, 3) := by decide +kernel
theorem d_Ru_compareKeys_26 : decode b_Ru_compareKeys 26 = .ok (.aaload, 1) := by decide +kernel
theorem d_Ru_compareKeys_27 : decode b_Ru_compareKeys 27 = .ok (.aload_n 0, 1) := by decide +kernel
theorem d_Ru_compareKeys_28 : decode b_Ru_compareKeys 28 = .ok (.getfield 40, 3) := by decide +kernel
theorem d_Ru_compareKeys_31 : decode b_Ru_compareKeys 31 = .ok (.getfield 69, 3) := by decide +kernel
theorem d_Ru_compareKeys_34 : decode b_Ru_compareKeys 34 = .ok (.aload_n 1, 1) := by decide +kernel
theorem d_Ru_compareKeys_35 : decode b_Ru_compareKeys 35 = .ok (.getfield 360, 3) := by decide +kernel
theorem d_Ru_compareKeys_38 : decode b_Ru_compareKeys 38 = .ok (.getfield 178, 3) := by decide +kernel
theorem d_Ru_compareKeys_41 : decode b_Ru_compareKeys 41 = .ok (.aaload, 1) := by decide +kernel
theorem d_Ru_compareKeys_42 : decode b_Ru_compareKeys 42 = .ok (.lload_n 2, 1) := by decide +kernel
theorem d_Ru_compareKeys_43 : decode b_Ru_compareKeys 43 = .ok (.l2i, 1) := by decide +kernel
theorem d_Ru_compareKeys_44 : decode b_Ru_compareKeys 44 = .ok (.lload 4, 2) := by decide +kernel
theorem d_Ru_compareKeys_46 : decode b_Ru_compareKeys 46 = .ok (.l2i, 1) := by decide +kernel
theorem d_Ru_compareKeys_47 : decode b_Ru_compareKeys 47 = .ok (.invokevirtual 376, 3) := by decide +kernel
theorem d_Ru_compareKeys_50 : decode b_Ru_compareKeys 50 = .ok (.ireturn, 1) := by decide +kernel
theorem d_Ru_compareRows_0 : decode b_Ru_compareRows 0 = .ok (.iconst 0, 1) := by decide +kernel
theorem d_Ru_compareRows_1 : decode b_Ru_compareRows 1 = .ok (.istore_n 3, 1) := by decide +kernel
theorem d_Ru_compareRows_2 : decode b_Ru_compareRows 2 = .ok (.iload_n 3, 1) := by decide +kernel
theorem d_Ru_compareRows_3 : decode b_Ru_compareRows 3 = .ok (.aload_n 0, 1) := by decide +kernel
theorem d_Ru_compareRows_4 : decode b_Ru_compareRows 4 = .ok (.getfield 40, 3) := by decide +kernel
theorem d_Ru_compareRows_7 : decode b_Ru_compareRows 7 = .ok (.getfield 351, 3) := by decide +kernel
theorem d_Ru_compareRows_10 : decode b_Ru_compareRows 10 = .ok (.if_icmp .ge 52, 3) := by decide +kernel
theorem d_Ru_compareRows_13 : decode b_Ru_compareRows 13 = .ok (.aload_n 0, 1) := by decide +kernel
theorem d_Ru_compareRows_14 : decode b_Ru_compareRows 14 = .ok (.aload_n 0, 1) := by decide +kernel
theorem d_Ru_compareRows_15 : decode b_Ru_compareRows 15 = .ok (.getfield 40, 3) := by decide +kernel
theorem d_Ru_compareRows_18 : decode b_Ru_compareRows 18 = .ok (.getfield 354, 3) := by decide +kernel
theorem d_Ru_compareRows_21 : decode b_Ru_compareRows 21 = .ok (.iload_n 3, 1) := by decide +kernel
theorem d_Ru_compareRows_22 : decode b_Ru_compareRows 22 = .ok (.aaload, 1) := by decide +kernel
theorem d_Ru_compareRows_23 : decode b_Ru_compareRows 23 = .ok (.aload_n 0, 1) := by decide +kernel
theorem d_Ru_compareRows_24 : decode b_Ru_compareRows 24 = .ok (.getfield 24, 3) := by decide +kernel
theorem d_Ru_compareRows_27 : decode b_Ru_compareRows 27 = .ok (.iload_n 1, 1) := by decide +kernel
theorem d_Ru_compareRows_28 : decode b_Ru_compareRows 28 = .ok (.iconst 2, 1) := by decide +kernel
theorem d_Ru_compareRows_29 : decode b_Ru_compareRows 29 = .ok (.imul, 1) := by decide +kernel
theorem d_Ru_compareRows_30 : decode b_Ru_compareRows 30 = .ok (.iload_n 3, 1) := by decide +kernel
theorem d_Ru_compareRows_31 : decode b_Ru_compareRows 31 = .ok (.iadd, 1) := by decide +kernel
theorem d_Ru_compareRows_32 : decode b_Ru_compareRows 32 = .ok (.laload, 1) := by decide +kernel
theorem d_Ru_compareRows_33 : decode b_Ru_compareRows 33 = .ok (.aload_n 0, 1) := by decide +kernel
theorem d_Ru_compareRows_34 : decode b_Ru_compareRows 34 = .ok (.getfield 24, 3) := by decide +kernel
theorem d_Ru_compareRows_37 : decode b_Ru_compareRows 37 = .ok (.iload_n 2, 1) := by decide +kernel
theorem d_Ru_compareRows_38 : decode b_Ru_compareRows 38 = .ok (.iconst 2, 1) := by decide +kernel
theorem d_Ru_compareRows_39 : decode b_Ru_compareRows 39 = .ok (.imul, 1) := by decide +kernel
theorem d_Ru_compareRows_40 : decode b_Ru_compareRows 40 = .ok (.iload_n 3, 1) := by decide +kernel
theorem d_Ru_compareRows_41 : decode b_Ru_compareRows 41 = .ok (.iadd, 1) := by decide +kernel
theorem d_Ru_compareRows_42 : decode b_Ru_compareRows 42 = .ok (.laload, 1) := by decide +kernel
theorem d_Ru_compareRows_43 : decode b_Ru_compareRows 43 = .ok (.invokevirtual 365, 3) := by decide +kernel
theorem d_Ru_compareRows_46 : decode b_Ru_compareRows 46 = .ok (.istore 4, 2) := by decide +kernel
theorem d_Ru_compareRows_48 : decode b_Ru_compareRows 48 = .ok (.iload 4, 2) := by decide +kernel
theorem d_Ru_compareRows_50 : decode b_Ru_compareRows 50 = .ok (.ifCond .eq 6, 3) := by decide +kernel
theorem d_Ru_compareRows_53 : decode b_Ru_compareRows 53 = .ok (.iload 4, 2) := by decide +kernel
theorem d_Ru_compareRows_55 : decode b_Ru_compareRows 55 = .ok (.ireturn, 1) := by decide +kernel
theorem d_Ru_compareRows_56 : decode b_Ru_compareRows 56 = .ok (.iinc 3 1, 3) := by decide +kernel
theorem d_Ru_compareRows_59 : decode b_Ru_compareRows 59 = .ok (.goto (-57), 3) := by decide +kernel
theorem d_Ru_compareRows_62 : decode b_Ru_compareRows 62 = .ok (.aload_n 0, 1) := by decide +kernel
theorem d_Ru_compareRows_63 : decode b_Ru_compareRows 63 = .ok (.getfield 11, 3) := by decide +kernel
theorem d_Ru_compareRows_66 : decode b_Ru_compareRows 66 = .ok (.iconst 4, 1) := by decide +kernel
theorem d_Ru_compareRows_67 : decode b_Ru_compareRows 67 = .ok (.aaload, 1) := by decide +kernel
theorem d_Ru_compareRows_68 : decode b_Ru_compareRows 68 = .ok (.getfield 323, 3) := by decide +kernel
theorem d_Ru_compareRows_71 : decode b_Ru_compareRows 71 = .ok (.astore_n 3, 1) := by decide +kernel
theorem d_Ru_compareRows_72 : decode b_Ru_compareRows 72 = .ok (.iconst 0, 1) := by decide +kernel
theorem d_Ru_compareRows_73 : decode b_Ru_compareRows 73 = .ok (.istore 4, 2) := by decide +kernel
theorem d_Ru_compareRows_75 : decode b_Ru_compareRows 75 = .ok (.iload 4, 2) := by decide +kernel
theorem d_Ru_compareRows_77 : decode b_Ru_compareRows 77 = .ok (.aload_n 0, 1) := by decide +kernel
theorem d_Ru_compareRows_78 : decode b_Ru_compareRows 78 = .ok (.getfield 40, 3) := by decide +kernel
theorem d_Ru_compareRows_81 : decode b_Ru_compareRows 81 = .ok (.getfield 369, 3) := by decide +kernel
theorem d_Ru_compareRows_84 : decode b_Ru_compareRows 84 = .ok (.getfield 131, 3) := by decide +kernel
theorem d_Ru_compareRows_87 : decode b_Ru_compareRows 87 = .ok (.if_icmp .ge 38, 3) := by decide +kernel
theorem d_Ru_compareRows_90 : decode b_Ru_compareRows 90 = .ok (.aload_n 3, 1) := by decide +kernel
theorem d_Ru_compareRows_91 : decode b_Ru_compareRows 91 = .ok (.iload_n 1, 1) := by decide +kernel
theorem d_Ru_compareRows_92 : decode b_Ru_compareRows 92 = .ok (.iconst 4, 1) := by decide +kernel
theorem d_Ru_compareRows_93 : decode b_Ru_compareRows 93 = .ok (.imul, 1) := by decide +kernel
theorem d_Ru_compareRows_94 : decode b_Ru_compareRows 94 = .ok (.iload 4, 2) := by decide +kernel
theorem d_Ru_compareRows_96 : decode b_Ru_compareRows 96 = .ok (.iadd, 1) := by decide +kernel
theorem d_Ru_compareRows_97 : decode b_Ru_compareRows 97 = .ok (.laload, 1) := by decide +kernel
theorem d_Ru_compareRows_98 : decode b_Ru_compareRows 98 = .ok (.aload_n 3, 1) := by decide +kernel
theorem d_Ru_compareRows_99 : decode b_Ru_compareRows 99 = .ok (.iload_n 2, 1) := by decide +kernel
theorem d_Ru_compareRows_100 : decode b_Ru_compareRows 100 = .ok (.iconst 4, 1) := by decide +kernel
theorem d_Ru_compareRows_101 : decode b_Ru_compareRows 101 = .ok (.imul, 1) := by decide +kernel
theorem d_Ru_compareRows_102 : decode b_Ru_compareRows 102 = .ok (.iload 4, 2) := by decide +kernel
theorem d_Ru_compareRows_104 : decode b_Ru_compareRows 104 = .ok (.iadd, 1) := by decide +kernel
theorem d_Ru_compareRows_105 : decode b_Ru_compareRows 105 = .ok (.laload, 1) := by decide +kernel
theorem d_Ru_compareRows_106 : decode b_Ru_compareRows 106 = .ok (.invokestatic 372, 3) := by decide +kernel
theorem d_Ru_compareRows_109 : decode b_Ru_compareRows 109 = .ok (.istore 5, 2) := by decide +kernel
theorem d_Ru_compareRows_111 : decode b_Ru_compareRows 111 = .ok (.iload 5, 2) := by decide +kernel
theorem d_Ru_compareRows_113 : decode b_Ru_compareRows 113 = .ok (.ifCond .eq 6, 3) := by decide +kernel
theorem d_Ru_compareRows_116 : decode b_Ru_compareRows 116 = .ok (.iload 5, 2) := by decide +kernel
theorem d_Ru_compareRows_118 : decode b_Ru_compareRows 118 = .ok (.ireturn, 1) := by decide +kernel
theorem d_Ru_compareRows_119 : decode b_Ru_compareRows 119 = .ok (.iinc 4 1, 3) := by decide +kernel
theorem d_Ru_compareRows_122 : decode b_Ru_compareRows 122 = .ok (.goto (-47), 3) := by decide +kernel
theorem d_Ru_compareRows_125 : decode b_Ru_compareRows 125 = .ok (.iconst 0, 1) := by decide +kernel
theorem d_Ru_compareRows_126 : decode b_Ru_compareRows 126 = .ok (.ireturn, 1) := by decide +kernel
theorem d_Ru_sort_0 : decode b_Ru_sort 0 = .ok (.aload_n 0, 1) := by decide +kernel
theorem d_Ru_sort_1 : decode b_Ru_sort 1 = .ok (.getfield 11, 3) := by decide +kernel
theorem d_Ru_sort_4 : decode b_Ru_sort 4 = .ok (.iconst 4, 1) := by decide +kernel
theorem d_Ru_sort_5 : decode b_Ru_sort 5 = .ok (.aaload, 1) := by decide +kernel
theorem d_Ru_sort_6 : decode b_Ru_sort 6 = .ok (.astore_n 1, 1) := by decide +kernel
theorem d_Ru_sort_7 : decode b_Ru_sort 7 = .ok (.iconst 0, 1) := by decide +kernel
theorem d_Ru_sort_8 : decode b_Ru_sort 8 = .ok (.istore_n 2, 1) := by decide +kernel
theorem d_Ru_sort_9 : decode b_Ru_sort 9 = .ok (.iload_n 2, 1) := by decide +kernel
theorem d_Ru_sort_10 : decode b_Ru_sort 10 = .ok (.aload_n 1, 1) := by decide +kernel
theorem d_Ru_sort_11 : decode b_Ru_sort 11 = .ok (.getfield 186, 3) := by decide +kernel
theorem d_Ru_sort_14 : decode b_Ru_sort 14 = .ok (.if_icmp .ge 58, 3) := by decide +kernel
theorem d_Ru_sort_17 : decode b_Ru_sort 17 = .ok (.iload_n 2, 1) := by decide +kernel
theorem d_Ru_sort_18 : decode b_Ru_sort 18 = .ok (.istore_n 3, 1) := by decide +kernel
theorem d_Ru_sort_19 : decode b_Ru_sort 19 = .ok (.iload_n 3, 1) := by decide +kernel
theorem d_Ru_sort_20 : decode b_Ru_sort 20 = .ok (.ifCond .le 39, 3) := by decide +kernel
theorem d_Ru_sort_23 : decode b_Ru_sort 23 = .ok (.aload_n 0, 1) := by decide +kernel
theorem d_Ru_sort_24 : decode b_Ru_sort 24 = .ok (.iload_n 2, 1) := by decide +kernel
theorem d_Ru_sort_25 : decode b_Ru_sort 25 = .ok (.aload_n 0, 1) := by decide +kernel
theorem d_Ru_sort_26 : decode b_Ru_sort 26 = .ok (.getfield 21, 3) := by decide +kernel
theorem d_Ru_sort_29 : decode b_Ru_sort 29 = .ok (.iload_n 3, 1) := by decide +kernel
theorem d_Ru_sort_30 : decode b_Ru_sort 30 = .ok (.iconst 1, 1) := by decide +kernel
theorem d_Ru_sort_31 : decode b_Ru_sort 31 = .ok (.isub, 1) := by decide +kernel
theorem d_Ru_sort_32 : decode b_Ru_sort 32 = .ok (.iaload, 1) := by decide +kernel
theorem d_Ru_sort_33 : decode b_Ru_sort 33 = .ok (.invokevirtual 361, 3) := by decide +kernel
theorem d_Ru_sort_36 : decode b_Ru_sort 36 = .ok (.ifCond .ge 23, 3) := by decide +kernel
theorem d_Ru_sort_39 : decode b_Ru_sort 39 = .ok (.aload_n 0, 1) := by decide +kernel
theorem d_Ru_sort_40 : decode b_Ru_sort 40 = .ok (.getfield 21, 3) := by decide +kernel
theorem d_Ru_sort_43 : decode b_Ru_sort 43 = .ok (.iload_n 3, 1) := by decide +kernel
theorem d_Ru_sort_44 : decode b_Ru_sort 44 = .ok (.aload_n 0, 1) := by decide +kernel
theorem d_Ru_sort_45 : decode b_Ru_sort 45 = .ok (.getfield 21, 3) := by decide +kernel
theorem d_Ru_sort_48 : decode b_Ru_sort 48 = .ok (.iload_n 3, 1) := by decide +kernel
theorem d_Ru_sort_49 : decode b_Ru_sort 49 = .ok (.iconst 1, 1) := by decide +kernel
theorem d_Ru_sort_50 : decode b_Ru_sort 50 = .ok (.isub, 1) := by decide +kernel
theorem d_Ru_sort_51 : decode b_Ru_sort 51 = .ok (.iaload, 1) := by decide +kernel
theorem d_Ru_sort_52 : decode b_Ru_sort 52 = .ok (.iastore, 1) := by decide +kernel
theorem d_Ru_sort_53 : decode b_Ru_sort 53 = .ok (.iinc 3 (-1), 3) := by decide +kernel
theorem d_Ru_sort_56 : decode b_Ru_sort 56 = .ok (.goto (-37), 3) := by decide +kernel
theorem d_Ru_sort_59 : decode b_Ru_sort 59 = .ok (.aload_n 0, 1) := by decide +kernel
theorem d_Ru_sort_60 : decode b_Ru_sort 60 = .ok (.getfield 21, 3) := by decide +kernel
theorem d_Ru_sort_63 : decode b_Ru_sort 63 = .ok (.iload_n 3, 1) := by decide +kernel
theorem d_Ru_sort_64 : decode b_Ru_sort 64 = .ok (.iload_n 2, 1) := by decide +kernel
theorem d_Ru_sort_65 : decode b_Ru_sort 65 = .ok (.iastore, 1) := by decide +kernel
theorem d_Ru_sort_66 : decode b_Ru_sort 66 = .ok (.iinc 2 1, 3) := by decide +kernel
theorem d_Ru_sort_69 : decode b_Ru_sort 69 = .ok (.goto (-60), 3) := by decide +kernel
theorem d_Ru_sort_72 : decode b_Ru_sort 72 = .ok (.return_, 1) := by decide +kernel
