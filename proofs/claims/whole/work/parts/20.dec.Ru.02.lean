theorem d_Ru_compareRows_18 : decode b_Ru_compareRows 18 = .ok (.getfield 354, 3) := by decide +kernel
theorem d_Ru_compareRows_21 : decode b_Ru_compareRows 21 = .ok (.iload_n 3, 1) := by decide +kernel
theorem d_Ru_compareRows_22 : decode b_Ru_compareRows 22 = .ok (.aaload, 1) := by decide +kernel
theorem d_Ru_compareRows_23 : decode b_Ru_compareRows 23 = .ok (.aload_n 0, 1) := by decide +kernel
theorem d_Ru_compareRows_24 : decode b_Ru_compareRows 24 = .ok (.getfield 24, 3) := by decide +kernel
theorem d_Ru_compareRows_27 : decode b_Ru_compareRows 27 = .ok (.iload_n 1, 1) := by decide +kernel
theorem d_Ru_compareRows_28 : decode b_Ru_compareRows 28 = .ok (.iconst 2, 1) := by decide +kernel
theorem d_Ru_compareRows_29 : decode b_Ru_compareRows 29 = .ok (.imul, 1) := by decide +kernel
theorem d_Ru_compareRows_30 : decode b_Ru_compareRows 30 = .ok (.iload_n 3, 1) := by decide +kernel
theorem d_Ru_compareRows_31 : decode b_Ru_compareRows 31 = .ok (.iadd, 1) := by decide +kernel
theorem d_Ru_compareRows_32 : decode b_Ru_compareRows 32 = .ok (.laload, 1) := by decide +kernel
theorem d_Ru_compareRows_33 : decode b_Ru_compareRows 33 = .ok (.aload_n 0, 1) := by decide +kernel
theorem d_Ru_compareRows_34 : decode b_Ru_compareRows 34 = .ok (.getfield 24, 3) := by decide +kernel
theorem d_Ru_compareRows_37 : decode b_Ru_compareRows 37 = .ok (.iload_n 2, 1) := by decide +kernel
theorem d_Ru_compareRows_38 : decode b_Ru_compareRows 38 = .ok (.iconst 2, 1) := by decide +kernel
theorem d_Ru_compareRows_39 : decode b_Ru_compareRows 39 = .ok (.imul, 1) := by decide +kernel
theorem d_Ru_compareRows_40 : decode b_Ru_compareRows 40 = .ok (.iload_n 3, 1) := by decide +kernel
theorem d_Ru_compareRows_41 : decode b_Ru_compareRows 41 = .ok (.iadd, 1) := by decide +kernel
theorem d_Ru_compareRows_42 : decode b_Ru_compareRows 42 = .ok (.laload, 1) := by decide +kernel
theorem d_Ru_compareRows_43 : decode b_Ru_compareRows 43 = .ok (.invokevirtual 365, 3) := by decide +kernel
theorem d_Ru_compareRows_46 : decode b_Ru_compareRows 46 = .ok (.istore 4, 2) := by decide +kernel
theorem d_Ru_compareRows_48 : decode b_Ru_compareRows 48 = .ok (.iload 4, 2) := by decide +kernel
theorem d_Ru_compareRows_50 : decode b_Ru_compareRows 50 = .ok (.ifCond .eq 6, 3) := by decide +kernel
theorem d_Ru_compareRows_53 : decode b_Ru_compareRows 53 = .ok (.iload 4, 2) := by decide +kernel
theorem d_Ru_compareRows_55 : decode b_Ru_compareRows 55 = .ok (.ireturn, 1) := by decide +kernel
theorem d_Ru_compareRows_56 : decode b_Ru_compareRows 56 = .ok (.iinc 3 1, 3) := by decide +kernel
theorem d_Ru_compareRows_59 : decode b_Ru_compareRows 59 = .ok (.goto (-57), 3) := by decide +kernel
theorem d_Ru_compareRows_62 : decode b_Ru_compareRows 62 = .ok (.aload_n 0, 1) := by decide +kernel
theorem d_Ru_compareRows_63 : decode b_Ru_compareRows 63 = .ok (.getfield 11, 3) := by decide +kernel
theorem d_Ru_compareRows_66 : decode b_Ru_compareRows 66 = .ok (.iconst 4, 1) := by decide +kernel
theorem d_Ru_compareRows_67 : decode b_Ru_compareRows 67 = .ok (.aaload, 1) := by decide +kernel
theorem d_Ru_compareRows_68 : decode b_Ru_compareRows 68 = .ok (.getfield 323, 3) := by decide +kernel
theorem d_Ru_compareRows_71 : decode b_Ru_compareRows 71 = .ok (.astore_n 3, 1) := by decide +kernel
theorem d_Ru_compareRows_72 : decode b_Ru_compareRows 72 = .ok (.iconst 0, 1) := by decide +kernel
theorem d_Ru_compareRows_73 : decode b_Ru_compareRows 73 = .ok (.istore 4, 2) := by decide +kernel
theorem d_Ru_compareRows_75 : decode b_Ru_compareRows 75 = .ok (.iload 4, 2) := by decide +kernel
theorem d_Ru_compareRows_77 : decode b_Ru_compareRows 77 = .ok (.aload_n 0, 1) := by decide +kernel
theorem d_Ru_compareRows_78 : decode b_Ru_compareRows 78 = .ok (.getfield 40, 3) := by decide +kernel
theorem d_Ru_compareRows_81 : decode b_Ru_compareRows 81 = .ok (.getfield 369, 3) := by decide +kernel
theorem d_Ru_compareRows_84 : decode b_Ru_compareRows 84 = .ok (.getfield 131, 3) := by decide +kernel
theorem d_Ru_compareRows_87 : decode b_Ru_compareRows 87 = .ok (.if_icmp .ge 38, 3) := by decide +kernel
theorem d_Ru_compareRows_90 : decode b_Ru_compareRows 90 = .ok (.aload_n 3, 1) := by decide +kernel
theorem d_Ru_compareRows_91 : decode b_Ru_compareRows 91 = .ok (.iload_n 1, 1) := by decide +kernel
theorem d_Ru_compareRows_92 : decode b_Ru_compareRows 92 = .ok (.iconst 4, 1) := by decide +kernel
theorem d_Ru_compareRows_93 : decode b_Ru_compareRows 93 = .ok (.imul, 1) := by decide +kernel
theorem d_Ru_compareRows_94 : decode b_Ru_compareRows 94 = .ok (.iload 4, 2) := by decide +kernel
theorem d_Ru_compareRows_96 : decode b_Ru_compareRows 96 = .ok (.iadd, 1) := by decide +kernel
theorem d_Ru_compareRows_97 : decode b_Ru_compareRows 97 = .ok (.laload, 1) := by decide +kernel
theorem d_Ru_compareRows_98 : decode b_Ru_compareRows 98 = .ok (.aload_n 3, 1) := by decide +kernel
theorem d_Ru_compareRows_99 : decode b_Ru_compareRows 99 = .ok (.iload_n 2, 1) := by decide +kernel
theorem d_Ru_compareRows_100 : decode b_Ru_compareRows 100 = .ok (.iconst 4, 1) := by decide +kernel
theorem d_Ru_compareRows_101 : decode b_Ru_compareRows 101 = .ok (.imul, 1) := by decide +kernel
theorem d_Ru_compareRows_102 : decode b_Ru_compareRows 102 = .ok (.iload 4, 2) := by decide +kernel
theorem d_Ru_compareRows_104 : decode b_Ru_compareRows 104 = .ok (.iadd, 1) := by decide +kernel
theorem d_Ru_compareRows_105 : decode b_Ru_compareRows 105 = .ok (.laload, 1) := by decide +kernel
theorem d_Ru_compareRows_106 : decode b_Ru_compareRows 106 = .ok (.invokestatic 372, 3) := by decide +kernel
theorem d_Ru_compareRows_109 : decode b_Ru_compareRows 109 = .ok (.istore 5, 2) := by decide +kernel
theorem d_Ru_compareRows_111 : decode b_Ru_compareRows 111 = .ok (.iload 5, 2) := by decide +kernel
theorem d_Ru_compareRows_113 : decode b_Ru_compareRows 113 = .ok (.ifCond .eq 6, 3) := by decide +kernel
theorem d_Ru_compareRows_116 : decode b_Ru_compareRows 116 = .ok (.iload 5, 2) := by decide +kernel
theorem d_Ru_compareRows_118 : decode b_Ru_compareRows 118 = .ok (.ireturn, 1) := by decide +kernel
theorem d_Ru_compareRows_119 : decode b_Ru_compareRows 119 = .ok (.iinc 4 1, 3) := by decide +kernel
theorem d_Ru_compareRows_122 : decode b_Ru_compareRows 122 = .ok (.goto (-47), 3) := by decide +kernel
theorem d_Ru_compareRows_125 : decode b_Ru_compareRows 125 = .ok (.iconst 0, 1) := by decide +kernel
theorem d_Ru_compareRows_126 : decode b_Ru_compareRows 126 = .ok (.ireturn, 1) := by decide +kernel
theorem d_Ru_sort_0 : decode b_Ru_sort 0 = .ok (.aload_n 0, 1) := by decide +kernel
theorem d_Ru_sort_1 : decode b_Ru_sort 1 = .ok (.getfield 11, 3) := by decide +kernel
theorem d_Ru_sort_4 : decode b_Ru_sort 4 = .ok (.iconst 4, 1) := by decide +kernel
theorem d_Ru_sort_5 : decode b_Ru_sort 5 = .ok (.aaload, 1) := by decide +kernel
theorem d_Ru_sort_6 : decode b_Ru_sort 6 = .ok (.astore_n 1, 1) := by decide +kernel
theorem d_Ru_sort_7 : decode b_Ru_sort 7 = .ok (.iconst 0, 1) := by decide +kernel
theorem d_Ru_sort_8 : decode b_Ru_sort 8 = .ok (.istore_n 2, 1) := by decide +kernel
theorem d_Ru_sort_9 : decode b_Ru_sort 9 = .ok (.iload_n 2, 1) := by decide +kernel
theorem d_Ru_sort_10 : decode b_Ru_sort 10 = .ok (.aload_n 1, 1) := by decide +kernel
theorem d_Ru_sort_11 : decode b_Ru_sort 11 = .ok (.getfield 186, 3) := by decide +kernel
theorem d_Ru_sort_14 : decode b_Ru_sort 14 = .ok (.if_icmp .ge 58, 3) := by decide +kernel
theorem d_Ru_sort_17 : decode b_Ru_sort 17 = .ok (.iload_n 2, 1) := by decide +kernel
theorem d_Ru_sort_18 : decode b_Ru_sort 18 = .ok (.istore_n 3, 1) := by decide +kernel
theorem d_Ru_sort_19 : decode b_Ru_sort 19 = .ok (.iload_n 3, 1) := by decide +kernel
theorem d_Ru_sort_20 : decode b_Ru_sort 20 = .ok (.ifCond .le 39, 3) := by decide +kernel
theorem d_Ru_sort_23 : decode b_Ru_sort 23 = .ok (.aload_n 0, 1) := by decide +kernel
theorem d_Ru_sort_24 : decode b_Ru_sort 24 = .ok (.iload_n 2, 1) := by decide +kernel
theorem d_Ru_sort_25 : decode b_Ru_sort 25 = .ok (.aload_n 0, 1) := by decide +kernel
theorem d_Ru_sort_26 : decode b_Ru_sort 26 = .ok (.getfield 21, 3) := by decide +kernel
theorem d_Ru_sort_29 : decode b_Ru_sort 29 = .ok (.iload_n 3, 1) := by decide +kernel
theorem d_Ru_sort_30 : decode b_Ru_sort 30 = .ok (.iconst 1, 1) := by decide +kernel
theorem d_Ru_sort_31 : decode b_Ru_sort 31 = .ok (.isub, 1) := by decide +kernel
theorem d_Ru_sort_32 : decode b_Ru_sort 32 = .ok (.iaload, 1) := by decide +kernel
theorem d_Ru_sort_33 : decode b_Ru_sort 33 = .ok (.invokevirtual 361, 3) := by decide +kernel
theorem d_Ru_sort_36 : decode b_Ru_sort 36 = .ok (.ifCond .ge 23, 3) := by decide +kernel
theorem d_Ru_sort_39 : decode b_Ru_sort 39 = .ok (.aload_n 0, 1) := by decide +kernel
theorem d_Ru_sort_40 : decode b_Ru_sort 40 = .ok (.getfield 21, 3) := by decide +kernel
theorem d_Ru_sort_43 : decode b_Ru_sort 43 = .ok (.iload_n 3, 1) := by decide +kernel
theorem d_Ru_sort_44 : decode b_Ru_sort 44 = .ok (.aload_n 0, 1) := by decide +kernel
theorem d_Ru_sort_45 : decode b_Ru_sort 45 = .ok (.getfield 21, 3) := by decide +kernel
theorem d_Ru_sort_48 : decode b_Ru_sort 48 = .ok (.iload_n 3, 1) := by decide +kernel
theorem d_Ru_sort_49 : decode b_Ru_sort 49 = .ok (.iconst 1, 1) := by decide +kernel
theorem d_Ru_sort_50 : decode b_Ru_sort 50 = .ok (.isub, 1) := by decide +kernel
theorem d_Ru_sort_51 : decode b_Ru_sort 51 = .ok (.iaload, 1) := by decide +kernel
theorem d_Ru_sort_52 : decode b_Ru_sort 52 = .ok (.iastore, 1) := by decide +kernel
theorem d_Ru_sort_53 : decode b_Ru_sort 53 = .ok (.iinc 3 (-1), 3) := by decide +kernel
theorem d_Ru_sort_56 : decode b_Ru_sort 56 = .ok (.goto (-37), 3) := by decide +kernel
theorem d_Ru_sort_59 : decode b_Ru_sort 59 = .ok (.aload_n 0, 1) := by decide +kernel
theorem d_Ru_sort_60 : decode b_Ru_sort 60 = .ok (.getfield 21, 3) := by decide +kernel
theorem d_Ru_sort_63 : decode b_Ru_sort 63 = .ok (.iload_n 3, 1) := by decide +kernel
theorem d_Ru_sort_64 : decode b_Ru_sort 64 = .ok (.iload_n 2, 1) := by decide +kernel
theorem d_Ru_sort_65 : decode b_Ru_sort 65 = .ok (.iastore, 1) := by decide +kernel
theorem d_Ru_sort_66 : decode b_Ru_sort 66 = .ok (.iinc 2 1, 3) := by decide +kernel
theorem d_Ru_sort_69 : decode b_Ru_sort 69 = .ok (.goto (-60), 3) := by decide +kernel
theorem d_Ru_sort_72 : decode b_Ru_sort 72 = .ok (.return_, 1) := by decide +kernel
