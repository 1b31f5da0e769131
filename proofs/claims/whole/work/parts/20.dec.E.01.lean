theorem d_E_init_0 : decode b_E_init 0 = .ok (.aload_n 0, 1) := by decide +kernel
theorem d_E_init_1 : decode b_E_init 1 = .ok (.invokespecial 3, 3) := by decide +kernel
theorem d_E_init_4 : decode b_E_init 4 = .ok (.aload_n 0, 1) := by decide +kernel
theorem d_E_init_5 : decode b_E_init 5 = .ok (.iconst 5, 1) := by decide +kernel
theorem d_E_init_6 : decode b_E_init 6 = .ok (.anewarray 9, 3) := by decide +kernel
theorem d_E_init_9 : decode b_E_init 9 = .ok (.putfield 11, 3) := by decide +kernel
theorem d_E_init_12 : decode b_E_init 12 = .ok (.aload_n 0, 1) := by decide +kernel
theorem d_E_init_13 : decode b_E_init 13 = .ok (.new 15, 3) := by decide +kernel
theorem d_E_init_16 : decode b_E_init 16 = .ok (.dup, 1) := by decide +kernel
theorem d_E_init_17 : decode b_E_init 17 = .ok (.invokespecial 17, 3) := by decide +kernel
theorem d_E_init_20 : decode b_E_init 20 = .ok (.putfield 18, 3) := by decide +kernel
theorem d_E_init_23 : decode b_E_init 23 = .ok (.aload_n 0, 1) := by decide +kernel
theorem d_E_init_24 : decode b_E_init 24 = .ok (.new 22, 3) := by decide +kernel
theorem d_E_init_27 : decode b_E_init 27 = .ok (.dup, 1) := by decide +kernel
theorem d_E_init_28 : decode b_E_init 28 = .ok (.invokespecial 24, 3) := by decide +kernel
theorem d_E_init_31 : decode b_E_init 31 = .ok (.putfield 25, 3) := by decide +kernel
theorem d_E_init_34 : decode b_E_init 34 = .ok (.aload_n 0, 1) := by decide +kernel
theorem d_E_init_35 : decode b_E_init 35 = .ok (.new 29, 3) := by decide +kernel
theorem d_E_init_38 : decode b_E_init 38 = .ok (.dup, 1) := by decide +kernel
theorem d_E_init_39 : decode b_E_init 39 = .ok (.invokespecial 31, 3) := by decide +kernel
theorem d_E_init_42 : decode b_E_init 42 = .ok (.putfield 32, 3) := by decide +kernel
theorem d_E_init_45 : decode b_E_init 45 = .ok (.aload_n 0, 1) := by decide +kernel
theorem d_E_init_46 : decode b_E_init 46 = .ok (.iconst 0, 1) := by decide +kernel
theorem d_E_init_47 : decode b_E_init 47 = .ok (.putfield 36, 3) := by decide +kernel
theorem d_E_init_50 : decode b_E_init 50 = .ok (.aload_n 0, 1) := by decide +kernel
theorem d_E_init_51 : decode b_E_init 51 = .ok (.aconst_null, 1) := by decide +kernel
theorem d_E_init_52 : decode b_E_init 52 = .ok (.putfield 40, 3) := by decide +kernel
theorem d_E_init_55 : decode b_E_init 55 = .ok (.aload_n 0, 1) := by decide +kernel
theorem d_E_init_56 : decode b_E_init 56 = .ok (.iconst 0, 1) := by decide +kernel
theorem d_E_init_57 : decode b_E_init 57 = .ok (.putfield 44, 3) := by decide +kernel
theorem d_E_init_60 : decode b_E_init 60 = .ok (.aload_n 0, 1) := by decide +kernel
theorem d_E_init_61 : decode b_E_init 61 = .ok (.iconst 0, 1) := by decide +kernel
theorem d_E_init_62 : decode b_E_init 62 = .ok (.putfield 47, 3) := by decide +kernel
theorem d_E_init_65 : decode b_E_init 65 = .ok (.return_, 1) := by decide +kernel
theorem d_E_table_0 : decode b_E_table 0 = .ok (.iload_n 1, 1) := by decide +kernel
theorem d_E_table_1 : decode b_E_table 1 = .ok (.iconst 1, 1) := by decide +kernel
theorem d_E_table_2 : decode b_E_table 2 = .ok (.if_icmp .lt 8, 3) := by decide +kernel
theorem d_E_table_5 : decode b_E_table 5 = .ok (.iload_n 1, 1) := by decide +kernel
theorem d_E_table_6 : decode b_E_table 6 = .ok (.iconst 3, 1) := by decide +kernel
theorem d_E_table_7 : decode b_E_table 7 = .ok (.if_icmp .le 13, 3) := by decide +kernel
theorem d_E_table_10 : decode b_E_table 10 = .ok (.new 51, 3) := by decide +kernel
theorem d_E_table_13 : decode b_E_table 13 = .ok (.dup, 1) := by decide +kernel
theorem d_E_table_14 : decode b_E_table 14 = .ok (.ldc 53, 2) := by decide +kernel
theorem d_E_table_16 : decode b_E_table 16 = .ok (.invokespecial 55, 3) := by decide +kernel
theorem d_E_table_19 : decode b_E_table 19 = .ok (.athrow, 1) := by decide +kernel
theorem d_E_table_20 : decode b_E_table 20 = .ok (.aload_n 0, 1) := by decide +kernel
theorem d_E_table_21 : decode b_E_table 21 = .ok (.getfield 36, 3) := by decide +kernel
theorem d_E_table_24 : decode b_E_table 24 = .ok (.iconst 5, 1) := by decide +kernel
theorem d_E_table_25 : decode b_E_table 25 = .ok (.if_icmp .lt 13, 3) := by decide +kernel
theorem d_E_table_28 : decode b_E_table 28 = .ok (.new 58, 3) := by decide +kernel
theorem d_E_table_31 : decode b_E_table 31 = .ok (.dup, 1) := by decide +kernel
theorem d_E_table_32 : decode b_E_table 32 = .ok (.ldc 60, 2) := by decide +kernel
theorem d_E_table_34 : decode b_E_table 34 = .ok (.invokespecial 62, 3) := by decide +kernel
theorem d_E_table_37 : decode b_E_table 37 = .ok (.athrow, 1) := by decide +kernel
theorem d_E_table_38 : decode b_E_table 38 = .ok (.aload_n 0, 1) := by decide +kernel
theorem d_E_table_39 : decode b_E_table 39 = .ok (.getfield 11, 3) := by decide +kernel
theorem d_E_table_42 : decode b_E_table 42 = .ok (.aload_n 0, 1) := by decide +kernel
theorem d_E_table_43 : decode b_E_table 43 = .ok (.getfield 36, 3) := by decide +kernel
theorem d_E_table_46 : decode b_E_table 46 = .ok (.new 9, 3) := by decide +kernel
theorem d_E_table_49 : decode b_E_table 49 = .ok (.dup, 1) := by decide +kernel
theorem d_E_table_50 : decode b_E_table 50 = .ok (.bipush 16, 2) := by decide +kernel
theorem d_E_table_52 : decode b_E_table 52 = .ok (.iload_n 1, 1) := by decide +kernel
theorem d_E_table_53 : decode b_E_table 53 = .ok (.invokespecial 63, 3) := by decide +kernel
theorem d_E_table_56 : decode b_E_table 56 = .ok (.aastore, 1) := by decide +kernel
theorem d_E_table_57 : decode b_E_table 57 = .ok (.aload_n 0, 1) := by decide +kernel
theorem d_E_table_58 : decode b_E_table 58 = .ok (.dup, 1) := by decide +kernel
theorem d_E_table_59 : decode b_E_table 59 = .ok (.getfield 36, 3) := by decide +kernel
theorem d_E_table_62 : decode b_E_table 62 = .ok (.iconst 1, 1) := by decide +kernel
theorem d_E_table_63 : decode b_E_table 63 = .ok (.iadd, 1) := by decide +kernel
theorem d_E_table_64 : decode b_E_table 64 = .ok (.putfield 36, 3) := by decide +kernel
theorem d_E_table_67 : decode b_E_table 67 = .ok (.aload_n 0, 1) := by decide +kernel
theorem d_E_table_68 : decode b_E_table 68 = .ok (.getfield 36, 3) := by decide +kernel
theorem d_E_table_71 : decode b_E_table 71 = .ok (.iconst 1, 1) := by decide +kernel
theorem d_E_table_72 : decode b_E_table 72 = .ok (.isub, 1) := by decide +kernel
theorem d_E_table_73 : decode b_E_table 73 = .ok (.ireturn, 1) := by decide +kernel
theorem d_E_row_0 : decode b_E_row 0 = .ok (.iload_n 1, 1) := by decide +kernel
theorem d_E_row_1 : decode b_E_row 1 = .ok (.ifCond .lt 11, 3) := by decide +kernel
theorem d_E_row_4 : decode b_E_row 4 = .ok (.iload_n 1, 1) := by decide +kernel
theorem d_E_row_5 : decode b_E_row 5 = .ok (.aload_n 0, 1) := by decide +kernel
theorem d_E_row_6 : decode b_E_row 6 = .ok (.getfield 36, 3) := by decide +kernel
theorem d_E_row_9 : decode b_E_row 9 = .ok (.if_icmp .lt 13, 3) := by decide +kernel
theorem d_E_row_12 : decode b_E_row 12 = .ok (.new 51, 3) := by decide +kernel
theorem d_E_row_15 : decode b_E_row 15 = .ok (.dup, 1) := by decide +kernel
theorem d_E_row_16 : decode b_E_row 16 = .ok (.ldc 66, 2) := by decide +kernel
theorem d_E_row_18 : decode b_E_row 18 = .ok (.invokespecial 55, 3) := by decide +kernel
theorem d_E_row_21 : decode b_E_row 21 = .ok (.athrow, 1) := by decide +kernel
theorem d_E_row_22 : decode b_E_row 22 = .ok (.aload_n 0, 1) := by decide +kernel
theorem d_E_row_23 : decode b_E_row 23 = .ok (.getfield 11, 3) := by decide +kernel
theorem d_E_row_26 : decode b_E_row 26 = .ok (.iload_n 1, 1) := by decide +kernel
theorem d_E_row_27 : decode b_E_row 27 = .ok (.aaload, 1) := by decide +kernel
theorem d_E_row_28 : decode b_E_row 28 = .ok (.astore 6, 2) := by decide +kernel
theorem d_E_row_30 : decode b_E_row 30 = .ok (.aload 6, 2) := by decide +kernel
theorem d_E_row_32 : decode b_E_row 32 = .ok (.getfield 68, 3) := by decide +kernel
theorem d_E_row_35 : decode b_E_row 35 = .ok (.bipush 16, 2) := by decide +kernel
theorem d_E_row_37 : decode b_E_row 37 = .ok (.if_icmp .lt 13, 3) := by decide +kernel
theorem d_E_row_40 : decode b_E_row 40 = .ok (.new 58, 3) := by decide +kernel
theorem d_E_row_43 : decode b_E_row 43 = .ok (.dup, 1) := by decide +kernel
theorem d_E_row_44 : decode b_E_row 44 = .ok (.ldc 71, 2) := by decide +kernel
theorem d_E_row_46 : decode b_E_row 46 = .ok (.invokespecial 62, 3) := by decide +kernel
theorem d_E_row_49 : decode b_E_row 49 = .ok (.athrow, 1) := by decide +kernel
theorem d_E_row_50 : decode b_E_row 50 = .ok (.aload 6, 2) := by decide +kernel
theorem d_E_row_52 : decode b_E_row 52 = .ok (.getfield 68, 3) := by decide +kernel
theorem d_E_row_55 : decode b_E_row 55 = .ok (.iconst 4, 1) := by decide +kernel
theorem d_E_row_56 : decode b_E_row 56 = .ok (.imul, 1) := by decide +kernel
theorem d_E_row_57 : decode b_E_row 57 = .ok (.istore 7, 2) := by decide +kernel
theorem d_E_row_59 : decode b_E_row 59 = .ok (.aload 6, 2) := by decide +kernel
theorem d_E_row_61 : decode b_E_row 61 = .ok (.getfield 73, 3) := by decide +kernel
theorem d_E_row_64 : decode b_E_row 64 = .ok (.iload 7, 2) := by decide +kernel
theorem d_E_row_66 : decode b_E_row 66 = .ok (.iload 5, 2) := by decide +kernel
theorem d_E_row_68 : decode b_E_row 68 = .ok (.iconst 1, 1) := by decide +kernel
theorem d_E_row_69 : decode b_E_row 69 = .ok (.iand, 1) := by decide +kernel
theorem d_E_row_70 : decode b_E_row 70 = .ok (.ifCond .eq 9, 3) := by decide +kernel
theorem d_E_row_73 : decode b_E_row 73 = .ok (.ldc2_w 77, 3) := by decide +kernel
theorem d_E_row_76 : decode b_E_row 76 = .ok (.goto 5, 3) := by decide +kernel
theorem d_E_row_79 : decode b_E_row 79 = .ok (.iload_n 2, 1) := by decide +kernel
theorem d_E_row_80 : decode b_E_row 80 = .ok (.i2l, 1) := by decide +kernel
theorem d_E_row_81 : decode b_E_row 81 = .ok (.lastore, 1) := by decide +kernel
theorem d_E_row_82 : decode b_E_row 82 = .ok (.aload 6, 2) := by decide +kernel
theorem d_E_row_84 : decode b_E_row 84 = .ok (.getfield 73, 3) := by decide +kernel
theorem d_E_row_87 : decode b_E_row 87 = .ok (.iload 7, 2) := by decide +kernel
theorem d_E_row_89 : decode b_E_row 89 = .ok (.iconst 1, 1) := by decide +kernel
theorem d_E_row_90 : decode b_E_row 90 = .ok (.iadd, 1) := by decide +kernel
theorem d_E_row_91 : decode b_E_row 91 = .ok (.iload 5, 2) := by decide +kernel
theorem d_E_row_93 : decode b_E_row 93 = .ok (.iconst 2, 1) := by decide +kernel
theorem d_E_row_94 : decode b_E_row 94 = .ok (.iand, 1) := by decide +kernel
theorem d_E_row_95 : decode b_E_row 95 = .ok (.ifCond .eq 9, 3) := by decide +kernel
theorem d_E_row_98 : decode b_E_row 98 = .ok (.ldc2_w 77, 3) := by decide +kernel
theorem d_E_row_101 : decode b_E_row 101 = .ok (.goto 5, 3) := by decide +kernel
theorem d_E_row_104 : decode b_E_row 104 = .ok (.iload_n 3, 1) := by decide +kernel
theorem d_E_row_105 : decode b_E_row 105 = .ok (.i2l, 1) := by decide +kernel
theorem d_E_row_106 : decode b_E_row 106 = .ok (.lastore, 1) := by decide +kernel
theorem d_E_row_107 : decode b_E_row 107 = .ok (.aload 6, 2) := by decide +kernel
theorem d_E_row_109 : decode b_E_row 109 = .ok (.getfield 73, 3) := by decide +kernel
theorem d_E_row_112 : decode b_E_row 112 = .ok (.iload 7, 2) := by decide +kernel
theorem d_E_row_114 : decode b_E_row 114 = .ok (.iconst 2, 1) := by decide +kernel
theorem d_E_row_115 : decode b_E_row 115 = .ok (.iadd, 1) := by decide +kernel
theorem d_E_row_116 : decode b_E_row 116 = .ok (.iload 5, 2) := by decide +kernel
theorem d_E_row_118 : decode b_E_row 118 = .ok (.iconst 4, 1) := by decide +kernel
theorem d_E_row_119 : decode b_E_row 119 = .ok (.iand, 1) := by decide +kernel
theorem d_E_row_120 : decode b_E_row 120 = .ok (.ifCond .eq 9, 3) := by decide +kernel
theorem d_E_row_123 : decode b_E_row 123 = .ok (.ldc2_w 77, 3) := by decide +kernel
theorem d_E_row_126 : decode b_E_row 126 = .ok (.goto 6, 3) := by decide +kernel
theorem d_E_row_129 : decode b_E_row 129 = .ok (.iload 4, 2) := by decide +kernel
theorem d_E_row_131 : decode b_E_row 131 = .ok (.i2l, 1) := by decide +kernel
theorem d_E_row_132 : decode b_E_row 132 = .ok (.lastore, 1) := by decide +kernel
theorem d_E_row_133 : decode b_E_row 133 = .ok (.aload 6, 2) := by decide +kernel
theorem d_E_row_135 : decode b_E_row 135 = .ok (.dup, 1) := by decide +kernel
theorem d_E_row_136 : decode b_E_row 136 = .ok (.getfield 68, 3) := by decide +kernel
theorem d_E_row_139 : decode b_E_row 139 = .ok (.iconst 1, 1) := by decide +kernel
theorem d_E_row_140 : decode b_E_row 140 = .ok (.iadd, 1) := by decide +kernel
theorem d_E_row_141 : decode b_E_row 141 = .ok (.putfield 68, 3) := by decide +kernel
theorem d_E_row_144 : decode b_E_row 144 = .ok (.aload 6, 2) := by decide +kernel
theorem d_E_row_146 : decode b_E_row 146 = .ok (.getfield 68, 3) := by decide +kernel
theorem d_E_row_149 : decode b_E_row 149 = .ok (.ireturn, 1) := by decide +kernel
theorem d_E_clear_0 : decode b_E_clear 0 = .ok (.iload_n 1, 1) := by decide +kernel
theorem d_E_clear_1 : decode b_E_clear 1 = .ok (.ifCond .lt 11, 3) := by decide +kernel
theorem d_E_clear_4 : decode b_E_clear 4 = .ok (.iload_n 1, 1) := by decide +kernel
theorem d_E_clear_5 : decode b_E_clear 5 = .ok (.aload_n 0, 1) := by decide +kernel
theorem d_E_clear_6 : decode b_E_clear 6 = .ok (.getfield 36, 3) := by decide +kernel
theorem d_E_clear_9 : decode b_E_clear 9 = .ok (.if_icmp .lt 13, 3) := by decide +kernel
theorem d_E_clear_12 : decode b_E_clear 12 = .ok (.new 51, 3) := by decide +kernel
theorem d_E_clear_15 : decode b_E_clear 15 = .ok (.dup, 1) := by decide +kernel
theorem d_E_clear_16 : decode b_E_clear 16 = .ok (.ldc 66, 2) := by decide +kernel
theorem d_E_clear_18 : decode b_E_clear 18 = .ok (.invokespecial 55, 3) := by decide +kernel
theorem d_E_clear_21 : decode b_E_clear 21 = .ok (.athrow, 1) := by decide +kernel
theorem d_E_clear_22 : decode b_E_clear 22 = .ok (.aload_n 0, 1) := by decide +kernel
theorem d_E_clear_23 : decode b_E_clear 23 = .ok (.getfield 11, 3) := by decide +kernel
theorem d_E_clear_26 : decode b_E_clear 26 = .ok (.iload_n 1, 1) := by decide +kernel
theorem d_E_clear_27 : decode b_E_clear 27 = .ok (.aaload, 1) := by decide +kernel
theorem d_E_clear_28 : decode b_E_clear 28 = .ok (.getfield 68, 3) := by decide +kernel
theorem d_E_clear_31 : decode b_E_clear 31 = .ok (.istore_n 2, 1) := by decide +kernel
theorem d_E_clear_32 : decode b_E_clear 32 = .ok (.aload_n 0, 1) := by decide +kernel
theorem d_E_clear_33 : decode b_E_clear 33 = .ok (.getfield 11, 3) := by decide +kernel
theorem d_E_clear_36 : decode b_E_clear 36 = .ok (.iload_n 1, 1) := by decide +kernel
theorem d_E_clear_37 : decode b_E_clear 37 = .ok (.aaload, 1) := by decide +kernel
theorem d_E_clear_38 : decode b_E_clear 38 = .ok (.iconst 0, 1) := by decide +kernel
theorem d_E_clear_39 : decode b_E_clear 39 = .ok (.putfield 68, 3) := by decide +kernel
theorem d_E_clear_42 : decode b_E_clear 42 = .ok (.iload_n 2, 1) := by decide +kernel
theorem d_E_clear_43 : decode b_E_clear 43 = .ok (.ireturn, 1) := by decide +kernel
theorem d_E_text_0 : decode b_E_text 0 = .ok (.aload_n 0, 1) := by decide +kernel
theorem d_E_text_1 : decode b_E_text 1 = .ok (.getfield 18, 3) := by decide +kernel
theorem d_E_text_4 : decode b_E_text 4 = .ok (.getfield 79, 3) := by decide +kernel
theorem d_E_text_7 : decode b_E_text 7 = .ok (.istore 6, 2) := by decide +kernel
theorem d_E_text_9 : decode b_E_text 9 = .ok (.aload_n 0, 1) := by decide +kernel
theorem d_E_text_10 : decode b_E_text 10 = .ok (.getfield 18, 3) := by decide +kernel
theorem d_E_text_13 : decode b_E_text 13 = .ok (.iload_n 1, 1) := by decide +kernel
theorem d_E_text_14 : decode b_E_text 14 = .ok (.invokevirtual 82, 3) := by decide +kernel
theorem d_E_text_17 : decode b_E_text 17 = .ok (.ifCond .eq 53, 3) := by decide +kernel
theorem d_E_text_20 : decode b_E_text 20 = .ok (.aload_n 0, 1) := by decide +kernel
theorem d_E_text_21 : decode b_E_text 21 = .ok (.getfield 18, 3) := by decide +kernel
theorem d_E_text_24 : decode b_E_text 24 = .ok (.iload_n 2, 1) := by decide +kernel
theorem d_E_text_25 : decode b_E_text 25 = .ok (.invokevirtual 82, 3) := by decide +kernel
theorem d_E_text_28 : decode b_E_text 28 = .ok (.ifCond .eq 42, 3) := by decide +kernel
theorem d_E_text_31 : decode b_E_text 31 = .ok (.aload_n 0, 1) := by decide +kernel
theorem d_E_text_32 : decode b_E_text 32 = .ok (.getfield 18, 3) := by decide +kernel
theorem d_E_text_35 : decode b_E_text 35 = .ok (.iload_n 3, 1) := by decide +kernel
theorem d_E_text_36 : decode b_E_text 36 = .ok (.invokevirtual 82, 3) := by decide +kernel
theorem d_E_text_39 : decode b_E_text 39 = .ok (.ifCond .eq 31, 3) := by decide +kernel
theorem d_E_text_42 : decode b_E_text 42 = .ok (.aload_n 0, 1) := by decide +kernel
theorem d_E_text_43 : decode b_E_text 43 = .ok (.getfield 18, 3) := by decide +kernel
theorem d_E_text_46 : decode b_E_text 46 = .ok (.iload 4, 2) := by decide +kernel
theorem d_E_text_48 : decode b_E_text 48 = .ok (.invokevirtual 82, 3) := by decide +kernel
theorem d_E_text_51 : decode b_E_text 51 = .ok (.ifCond .eq 19, 3) := by decide +kernel
theorem d_E_text_54 : decode b_E_text 54 = .ok (.aload_n 0, 1) := by decide +kernel
theorem d_E_text_55 : decode b_E_text 55 = .ok (.getfield 18, 3) := by decide +kernel
theorem d_E_text_58 : decode b_E_text 58 = .ok (.iload 5, 2) := by decide +kernel
theorem d_E_text_60 : decode b_E_text 60 = .ok (.invokevirtual 82, 3) := by decide +kernel
theorem d_E_text_63 : decode b_E_text 63 = .ok (.ifCond .eq 7, 3) := by decide +kernel
theorem d_E_text_66 : decode b_E_text 66 = .ok (.iconst 1, 1) := by decide +kernel
theorem d_E_text_67 : decode b_E_text 67 = .ok (.goto 4, 3) := by decide +kernel
theorem d_E_text_70 : decode b_E_text 70 = .ok (.iconst 0, 1) := by decide +kernel
theorem d_E_text_71 : decode b_E_text 71 = .ok (.istore 7, 2) := by decide +kernel
theorem d_E_text_73 : decode b_E_text 73 = .ok (.iload 7, 2) := by decide +kernel
theorem d_E_text_75 : decode b_E_text 75 = .ok (.ifCond .ne 12, 3) := by decide +kernel
theorem d_E_text_78 : decode b_E_text 78 = .ok (.aload_n 0, 1) := by decide +kernel
theorem d_E_text_79 : decode b_E_text 79 = .ok (.getfield 18, 3) := by decide +kernel
theorem d_E_text_82 : decode b_E_text 82 = .ok (.iload 6, 2) := by decide +kernel
theorem d_E_text_84 : decode b_E_text 84 = .ok (.putfield 79, 3) := by decide +kernel
theorem d_E_text_87 : decode b_E_text 87 = .ok (.iload 7, 2) := by decide +kernel
theorem d_E_text_89 : decode b_E_text 89 = .ok (.ireturn, 1) := by decide +kernel
theorem d_E_prepare_0 : decode b_E_prepare 0 = .ok (.aload_n 0, 1) := by decide +kernel
theorem d_E_prepare_1 : decode b_E_prepare 1 = .ok (.aconst_null, 1) := by decide +kernel
theorem d_E_prepare_2 : decode b_E_prepare 2 = .ok (.putfield 40, 3) := by decide +kernel
theorem d_E_prepare_5 : decode b_E_prepare 5 = .ok (.aload_n 0, 1) := by decide +kernel
theorem d_E_prepare_6 : decode b_E_prepare 6 = .ok (.iconst 0, 1) := by decide +kernel
theorem d_E_prepare_7 : decode b_E_prepare 7 = .ok (.putfield 47, 3) := by decide +kernel
theorem d_E_prepare_10 : decode b_E_prepare 10 = .ok (.aload_n 0, 1) := by decide +kernel
theorem d_E_prepare_11 : decode b_E_prepare 11 = .ok (.getfield 18, 3) := by decide +kernel
theorem d_E_prepare_14 : decode b_E_prepare 14 = .ok (.invokevirtual 86, 3) := by decide +kernel
theorem d_E_prepare_17 : decode b_E_prepare 17 = .ok (.astore_n 1, 1) := by decide +kernel
theorem d_E_prepare_18 : decode b_E_prepare 18 = .ok (.aload_n 0, 1) := by decide +kernel
theorem d_E_prepare_19 : decode b_E_prepare 19 = .ok (.aload_n 1, 1) := by decide +kernel
theorem d_E_prepare_20 : decode b_E_prepare 20 = .ok (.ifnonnull 13, 3) := by decide +kernel
theorem d_E_prepare_23 : decode b_E_prepare 23 = .ok (.aload_n 0, 1) := by decide +kernel
theorem d_E_prepare_24 : decode b_E_prepare 24 = .ok (.getfield 18, 3) := by decide +kernel
theorem d_E_prepare_27 : decode b_E_prepare 27 = .ok (.invokevirtual 90, 3) := by decide +kernel
theorem d_E_prepare_30 : decode b_E_prepare 30 = .ok (.goto 19, 3) := by decide +kernel
theorem d_E_prepare_33 : decode b_E_prepare 33 = .ok (.aload_n 0, 1) := by decide +kernel
theorem d_E_prepare_34 : decode b_E_prepare 34 = .ok (.getfield 25, 3) := by decide +kernel
theorem d_E_prepare_37 : decode b_E_prepare 37 = .ok (.aload_n 1, 1) := by decide +kernel
theorem d_E_prepare_38 : decode b_E_prepare 38 = .ok (.aload_n 0, 1) := by decide +kernel
theorem d_E_prepare_39 : decode b_E_prepare 39 = .ok (.getfield 11, 3) := by decide +kernel
theorem d_E_prepare_42 : decode b_E_prepare 42 = .ok (.aload_n 0, 1) := by decide +kernel
theorem d_E_prepare_43 : decode b_E_prepare 43 = .ok (.getfield 36, 3) := by decide +kernel
theorem d_E_prepare_46 : decode b_E_prepare 46 = .ok (.invokevirtual 94, 3) := by decide +kernel
theorem d_E_prepare_49 : decode b_E_prepare 49 = .ok (.putfield 44, 3) := by decide +kernel
theorem d_E_prepare_52 : decode b_E_prepare 52 = .ok (.aload_n 0, 1) := by decide +kernel
theorem d_E_prepare_53 : decode b_E_prepare 53 = .ok (.getfield 18, 3) := by decide +kernel
theorem d_E_prepare_56 : decode b_E_prepare 56 = .ok (.iconst 0, 1) := by decide +kernel
theorem d_E_prepare_57 : decode b_E_prepare 57 = .ok (.putfield 79, 3) := by decide +kernel
theorem d_E_prepare_60 : decode b_E_prepare 60 = .ok (.aload_n 0, 1) := by decide +kernel
theorem d_E_prepare_61 : decode b_E_prepare 61 = .ok (.getfield 44, 3) := by decide +kernel
theorem d_E_prepare_64 : decode b_E_prepare 64 = .ok (.ifCond .ne 7, 3) := by decide +kernel
theorem d_E_prepare_67 : decode b_E_prepare 67 = .ok (.aload_n 1, 1) := by decide +kernel
theorem d_E_prepare_68 : decode b_E_prepare 68 = .ok (.ifnonnull 13, 3) := by decide +kernel
theorem d_E_prepare_71 : decode b_E_prepare 71 = .ok (.new 51, 3) := by decide +kernel
theorem d_E_prepare_74 : decode b_E_prepare 74 = .ok (.dup, 1) := by decide +kernel
theorem d_E_prepare_75 : decode b_E_prepare 75 = .ok (.ldc 98, 2) := by decide +kernel
theorem d_E_prepare_77 : decode b_E_prepare 77 = .ok (.invokespecial 55, 3) := by decide +kernel
theorem d_E_prepare_80 : decode b_E_prepare 80 = .ok (.athrow, 1) := by decide +kernel
theorem d_E_prepare_81 : decode b_E_prepare 81 = .ok (.aload_n 0, 1) := by decide +kernel
theorem d_E_prepare_82 : decode b_E_prepare 82 = .ok (.aload_n 1, 1) := by decide +kernel
theorem d_E_prepare_83 : decode b_E_prepare 83 = .ok (.putfield 40, 3) := by decide +kernel
theorem d_E_prepare_86 : decode b_E_prepare 86 = .ok (.aload_n 1, 1) := by decide +kernel
theorem d_E_prepare_87 : decode b_E_prepare 87 = .ok (.getfield 100, 3) := by decide +kernel
theorem d_E_prepare_90 : decode b_E_prepare 90 = .ok (.ireturn, 1) := by decide +kernel
theorem d_E_fault_0 : decode b_E_fault 0 = .ok (.aload_n 0, 1) := by decide +kernel
theorem d_E_fault_1 : decode b_E_fault 1 = .ok (.getfield 44, 3) := by decide +kernel
theorem d_E_fault_4 : decode b_E_fault 4 = .ok (.ireturn, 1) := by decide +kernel
theorem d_E_part_0 : decode b_E_part 0 = .ok (.aload_n 0, 1) := by decide +kernel
theorem d_E_part_1 : decode b_E_part 1 = .ok (.getfield 40, 3) := by decide +kernel
theorem d_E_part_4 : decode b_E_part 4 = .ok (.ifnull 18, 3) := by decide +kernel
theorem d_E_part_7 : decode b_E_part 7 = .ok (.iload_n 1, 1) := by decide +kernel
theorem d_E_part_8 : decode b_E_part 8 = .ok (.ifCond .lt 14, 3) := by decide +kernel
theorem d_E_part_11 : decode b_E_part 11 = .ok (.iload_n 1, 1) := by decide +kernel
theorem d_E_part_12 : decode b_E_part 12 = .ok (.aload_n 0, 1) := by decide +kernel
theorem d_E_part_13 : decode b_E_part 13 = .ok (.getfield 40, 3) := by decide +kernel
theorem d_E_part_16 : decode b_E_part 16 = .ok (.getfield 100, 3) := by decide +kernel
theorem d_E_part_19 : decode b_E_part 19 = .ok (.if_icmp .lt 13, 3) := by decide +kernel
theorem d_E_part_22 : decode b_E_part 22 = .ok (.new 105, 3) := by decide +kernel
theorem d_E_part_25 : decode b_E_part 25 = .ok (.dup, 1) := by decide +kernel
theorem d_E_part_26 : decode b_E_part 26 = .ok (.ldc 107, 2) := by decide +kernel
theorem d_E_part_28 : decode b_E_part 28 = .ok (.invokespecial 109, 3) := by decide +kernel
theorem d_E_part_31 : decode b_E_part 31 = .ok (.athrow, 1) := by decide +kernel
theorem d_E_part_32 : decode b_E_part 32 = .ok (.aload_n 0, 1) := by decide +kernel
theorem d_E_part_33 : decode b_E_part 33 = .ok (.getfield 40, 3) := by decide +kernel
theorem d_E_part_36 : decode b_E_part 36 = .ok (.getfield 110, 3) := by decide +kernel
theorem d_E_part_39 : decode b_E_part 39 = .ok (.iload_n 1, 1) := by decide +kernel
theorem d_E_part_40 : decode b_E_part 40 = .ok (.aaload, 1) := by decide +kernel
theorem d_E_part_41 : decode b_E_part 41 = .ok (.astore_n 3, 1) := by decide +kernel
theorem d_E_part_42 : decode b_E_part 42 = .ok (.iload_n 2, 1) := by decide +kernel
theorem d_E_part_43 : decode b_E_part 43 = .ok (.tableswitch 64 0 2 #[25, 30, 43], 25) := by decide +kernel
theorem d_E_part_68 : decode b_E_part 68 = .ok (.aload_n 3, 1) := by decide +kernel
theorem d_E_part_69 : decode b_E_part 69 = .ok (.getfield 114, 3) := by decide +kernel
theorem d_E_part_72 : decode b_E_part 72 = .ok (.ireturn, 1) := by decide +kernel
theorem d_E_part_73 : decode b_E_part 73 = .ok (.aload_n 3, 1) := by decide +kernel
theorem d_E_part_74 : decode b_E_part 74 = .ok (.getfield 119, 3) := by decide +kernel
theorem d_E_part_77 : decode b_E_part 77 = .ok (.ifCond .eq 7, 3) := by decide +kernel
theorem d_E_part_80 : decode b_E_part 80 = .ok (.iconst 1, 1) := by decide +kernel
theorem d_E_part_81 : decode b_E_part 81 = .ok (.goto 4, 3) := by decide +kernel
theorem d_E_part_84 : decode b_E_part 84 = .ok (.iconst 0, 1) := by decide +kernel
theorem d_E_part_85 : decode b_E_part 85 = .ok (.ireturn, 1) := by decide +kernel
theorem d_E_part_86 : decode b_E_part 86 = .ok (.aload_n 3, 1) := by decide +kernel
theorem d_E_part_87 : decode b_E_part 87 = .ok (.getfield 122, 3) := by decide +kernel
theorem d_E_part_90 : decode b_E_part 90 = .ok (.ifCond .eq 12, 3) := by decide +kernel
theorem d_E_part_93 : decode b_E_part 93 = .ok (.aload_n 3, 1) := by decide +kernel
theorem d_E_part_94 : decode b_E_part 94 = .ok (.getfield 125, 3) := by decide +kernel
theorem d_E_part_97 : decode b_E_part 97 = .ok (.iconst 1, 1) := by decide +kernel
theorem d_E_part_98 : decode b_E_part 98 = .ok (.iadd, 1) := by decide +kernel
theorem d_E_part_99 : decode b_E_part 99 = .ok (.goto 7, 3) := by decide +kernel
theorem d_E_part_102 : decode b_E_part 102 = .ok (.aload_n 3, 1) := by decide +kernel
theorem d_E_part_103 : decode b_E_part 103 = .ok (.getfield 125, 3) := by decide +kernel
theorem d_E_part_106 : decode b_E_part 106 = .ok (.ireturn, 1) := by decide +kernel
theorem d_E_part_107 : decode b_E_part 107 = .ok (.new 51, 3) := by decide +kernel
theorem d_E_part_110 : decode b_E_part 110 = .ok (.dup, 1) := by decide +kernel
theorem d_E_part_111 : decode b_E_part 111 = .ok (.ldc 128, 2) := by decide +kernel
theorem d_E_part_113 : decode b_E_part 113 = .ok (.invokespecial 55, 3) := by decide +kernel
theorem d_E_part_116 : decode b_E_part 116 = .ok (.athrow, 1) := by decide +kernel
theorem d_E_run_0 : decode b_E_run 0 = .ok (.iload_n 1, 1) := by decide +kernel
theorem d_E_run_1 : decode b_E_run 1 = .ok (.iconst 1, 1) := by decide +kernel
theorem d_E_run_2 : decode b_E_run 2 = .ok (.if_icmp .lt 20, 3) := by decide +kernel
theorem d_E_run_5 : decode b_E_run 5 = .ok (.iload_n 1, 1) := by decide +kernel
theorem d_E_run_6 : decode b_E_run 6 = .ok (.bipush 30, 2) := by decide +kernel
theorem d_E_run_8 : decode b_E_run 8 = .ok (.if_icmp .gt 14, 3) := by decide +kernel
theorem d_E_run_11 : decode b_E_run 11 = .ok (.iload_n 2, 1) := by decide +kernel
theorem d_E_run_12 : decode b_E_run 12 = .ok (.iconst 1, 1) := by decide +kernel
theorem d_E_run_13 : decode b_E_run 13 = .ok (.if_icmp .lt 9, 3) := by decide +kernel
theorem d_E_run_16 : decode b_E_run 16 = .ok (.iload_n 2, 1) := by decide +kernel
theorem d_E_run_17 : decode b_E_run 17 = .ok (.bipush 48, 2) := by decide +kernel
theorem d_E_run_19 : decode b_E_run 19 = .ok (.if_icmp .le 13, 3) := by decide +kernel
theorem d_E_run_22 : decode b_E_run 22 = .ok (.new 51, 3) := by decide +kernel
theorem d_E_run_25 : decode b_E_run 25 = .ok (.dup, 1) := by decide +kernel
theorem d_E_run_26 : decode b_E_run 26 = .ok (.ldc 130, 2) := by decide +kernel
theorem d_E_run_28 : decode b_E_run 28 = .ok (.invokespecial 55, 3) := by decide +kernel
theorem d_E_run_31 : decode b_E_run 31 = .ok (.athrow, 1) := by decide +kernel
theorem d_E_run_32 : decode b_E_run 32 = .ok (.aload_n 0, 1) := by decide +kernel
theorem d_E_run_33 : decode b_E_run 33 = .ok (.getfield 40, 3) := by decide +kernel
theorem d_E_run_36 : decode b_E_run 36 = .ok (.ifnonnull 13, 3) := by decide +kernel
theorem d_E_run_39 : decode b_E_run 39 = .ok (.new 58, 3) := by decide +kernel
theorem d_E_run_42 : decode b_E_run 42 = .ok (.dup, 1) := by decide +kernel
theorem d_E_run_43 : decode b_E_run 43 = .ok (.ldc 132, 2) := by decide +kernel
theorem d_E_run_45 : decode b_E_run 45 = .ok (.invokespecial 62, 3) := by decide +kernel
theorem d_E_run_48 : decode b_E_run 48 = .ok (.athrow, 1) := by decide +kernel
theorem d_E_run_49 : decode b_E_run 49 = .ok (.aload_n 0, 1) := by decide +kernel
theorem d_E_run_50 : decode b_E_run 50 = .ok (.iconst 0, 1) := by decide +kernel
theorem d_E_run_51 : decode b_E_run 51 = .ok (.putfield 47, 3) := by decide +kernel
theorem d_E_run_54 : decode b_E_run 54 = .ok (.aload_n 0, 1) := by decide +kernel
theorem d_E_run_55 : decode b_E_run 55 = .ok (.getfield 32, 3) := by decide +kernel
theorem d_E_run_58 : decode b_E_run 58 = .ok (.aload_n 0, 1) := by decide +kernel
theorem d_E_run_59 : decode b_E_run 59 = .ok (.getfield 40, 3) := by decide +kernel
theorem d_E_run_62 : decode b_E_run 62 = .ok (.aload_n 0, 1) := by decide +kernel
theorem d_E_run_63 : decode b_E_run 63 = .ok (.getfield 11, 3) := by decide +kernel
theorem d_E_run_66 : decode b_E_run 66 = .ok (.iload_n 1, 1) := by decide +kernel
theorem d_E_run_67 : decode b_E_run 67 = .ok (.iload_n 2, 1) := by decide +kernel
theorem d_E_run_68 : decode b_E_run 68 = .ok (.invokevirtual 134, 3) := by decide +kernel
theorem d_E_run_71 : decode b_E_run 71 = .ok (.iconst 0, 1) := by decide +kernel
theorem d_E_run_72 : decode b_E_run 72 = .ok (.istore_n 3, 1) := by decide +kernel
theorem d_E_run_73 : decode b_E_run 73 = .ok (.iload_n 3, 1) := by decide +kernel
theorem d_E_run_74 : decode b_E_run 74 = .ok (.aload_n 0, 1) := by decide +kernel
theorem d_E_run_75 : decode b_E_run 75 = .ok (.getfield 40, 3) := by decide +kernel
theorem d_E_run_78 : decode b_E_run 78 = .ok (.getfield 138, 3) := by decide +kernel
theorem d_E_run_81 : decode b_E_run 81 = .ok (.if_icmp .ge 17, 3) := by decide +kernel
theorem d_E_run_84 : decode b_E_run 84 = .ok (.aload_n 0, 1) := by decide +kernel
theorem d_E_run_85 : decode b_E_run 85 = .ok (.getfield 32, 3) := by decide +kernel
theorem d_E_run_88 : decode b_E_run 88 = .ok (.iload_n 3, 1) := by decide +kernel
theorem d_E_run_89 : decode b_E_run 89 = .ok (.invokevirtual 141, 3) := by decide +kernel
theorem d_E_run_92 : decode b_E_run 92 = .ok (.iinc 3 1, 3) := by decide +kernel
theorem d_E_run_95 : decode b_E_run 95 = .ok (.goto (-22), 3) := by decide +kernel
theorem d_E_run_98 : decode b_E_run 98 = .ok (.aload_n 0, 1) := by decide +kernel
theorem d_E_run_99 : decode b_E_run 99 = .ok (.getfield 32, 3) := by decide +kernel
theorem d_E_run_102 : decode b_E_run 102 = .ok (.aload_n 0, 1) := by decide +kernel
theorem d_E_run_103 : decode b_E_run 103 = .ok (.getfield 40, 3) := by decide +kernel
theorem d_E_run_106 : decode b_E_run 106 = .ok (.getfield 144, 3) := by decide +kernel
theorem d_E_run_109 : decode b_E_run 109 = .ok (.iconst 4, 1) := by decide +kernel
theorem d_E_run_110 : decode b_E_run 110 = .ok (.invokevirtual 148, 3) := by decide +kernel
theorem d_E_run_113 : decode b_E_run 113 = .ok (.aload_n 0, 1) := by decide +kernel
theorem d_E_run_114 : decode b_E_run 114 = .ok (.getfield 32, 3) := by decide +kernel
theorem d_E_run_117 : decode b_E_run 117 = .ok (.invokevirtual 152, 3) := by decide +kernel
theorem d_E_run_120 : decode b_E_run 120 = .ok (.aload_n 0, 1) := by decide +kernel
theorem d_E_run_121 : decode b_E_run 121 = .ok (.iconst 1, 1) := by decide +kernel
theorem d_E_run_122 : decode b_E_run 122 = .ok (.putfield 47, 3) := by decide +kernel
theorem d_E_run_125 : decode b_E_run 125 = .ok (.aload_n 0, 1) := by decide +kernel
theorem d_E_run_126 : decode b_E_run 126 = .ok (.getfield 32, 3) := by decide +kernel
theorem d_E_run_129 : decode b_E_run 129 = .ok (.getfield 155, 3) := by decide +kernel
theorem d_E_run_132 : decode b_E_run 132 = .ok (.iconst 4, 1) := by decide +kernel
theorem d_E_run_133 : decode b_E_run 133 = .ok (.aaload, 1) := by decide +kernel
theorem d_E_run_134 : decode b_E_run 134 = .ok (.getfield 68, 3) := by decide +kernel
theorem d_E_run_137 : decode b_E_run 137 = .ok (.ireturn, 1) := by decide +kernel
theorem d_E_cell_0 : decode b_E_cell 0 = .ok (.aload_n 0, 1) := by decide +kernel
theorem d_E_cell_1 : decode b_E_cell 1 = .ok (.getfield 47, 3) := by decide +kernel
theorem d_E_cell_4 : decode b_E_cell 4 = .ok (.ifCond .eq 41, 3) := by decide +kernel
theorem d_E_cell_7 : decode b_E_cell 7 = .ok (.iload_n 1, 1) := by decide +kernel
theorem d_E_cell_8 : decode b_E_cell 8 = .ok (.ifCond .lt 37, 3) := by decide +kernel
theorem d_E_cell_11 : decode b_E_cell 11 = .ok (.iload_n 1, 1) := by decide +kernel
theorem d_E_cell_12 : decode b_E_cell 12 = .ok (.aload_n 0, 1) := by decide +kernel
theorem d_E_cell_13 : decode b_E_cell 13 = .ok (.getfield 32, 3) := by decide +kernel
theorem d_E_cell_16 : decode b_E_cell 16 = .ok (.getfield 155, 3) := by decide +kernel
theorem d_E_cell_19 : decode b_E_cell 19 = .ok (.iconst 4, 1) := by decide +kernel
theorem d_E_cell_20 : decode b_E_cell 20 = .ok (.aaload, 1) := by decide +kernel
theorem d_E_cell_21 : decode b_E_cell 21 = .ok (.getfield 68, 3) := by decide +kernel
theorem d_E_cell_24 : decode b_E_cell 24 = .ok (.if_icmp .ge 21, 3) := by decide +kernel
theorem d_E_cell_27 : decode b_E_cell 27 = .ok (.iload_n 2, 1) := by decide +kernel
theorem d_E_cell_28 : decode b_E_cell 28 = .ok (.ifCond .lt 17, 3) := by decide +kernel
theorem d_E_cell_31 : decode b_E_cell 31 = .ok (.iload_n 2, 1) := by decide +kernel
theorem d_E_cell_32 : decode b_E_cell 32 = .ok (.aload_n 0, 1) := by decide +kernel
theorem d_E_cell_33 : decode b_E_cell 33 = .ok (.getfield 40, 3) := by decide +kernel
theorem d_E_cell_36 : decode b_E_cell 36 = .ok (.getfield 144, 3) := by decide +kernel
theorem d_E_cell_39 : decode b_E_cell 39 = .ok (.getfield 158, 3) := by decide +kernel
theorem d_E_cell_42 : decode b_E_cell 42 = .ok (.if_icmp .lt 13, 3) := by decide +kernel
theorem d_E_cell_45 : decode b_E_cell 45 = .ok (.new 163, 3) := by decide +kernel
theorem d_E_cell_48 : decode b_E_cell 48 = .ok (.dup, 1) := by decide +kernel
theorem d_E_cell_49 : decode b_E_cell 49 = .ok (.ldc 165, 2) := by decide +kernel
theorem d_E_cell_51 : decode b_E_cell 51 = .ok (.invokespecial 167, 3) := by decide +kernel
theorem d_E_cell_54 : decode b_E_cell 54 = .ok (.athrow, 1) := by decide +kernel
theorem d_E_cell_55 : decode b_E_cell 55 = .ok (.aload_n 0, 1) := by decide +kernel
theorem d_E_cell_56 : decode b_E_cell 56 = .ok (.getfield 32, 3) := by decide +kernel
theorem d_E_cell_59 : decode b_E_cell 59 = .ok (.getfield 155, 3) := by decide +kernel
theorem d_E_cell_62 : decode b_E_cell 62 = .ok (.iconst 4, 1) := by decide +kernel
theorem d_E_cell_63 : decode b_E_cell 63 = .ok (.aaload, 1) := by decide +kernel
theorem d_E_cell_64 : decode b_E_cell 64 = .ok (.getfield 73, 3) := by decide +kernel
theorem d_E_cell_67 : decode b_E_cell 67 = .ok (.aload_n 0, 1) := by decide +kernel
theorem d_E_cell_68 : decode b_E_cell 68 = .ok (.getfield 32, 3) := by decide +kernel
theorem d_E_cell_71 : decode b_E_cell 71 = .ok (.getfield 168, 3) := by decide +kernel
theorem d_E_cell_74 : decode b_E_cell 74 = .ok (.iload_n 1, 1) := by decide +kernel
theorem d_E_cell_75 : decode b_E_cell 75 = .ok (.iaload, 1) := by decide +kernel
theorem d_E_cell_76 : decode b_E_cell 76 = .ok (.iconst 4, 1) := by decide +kernel
theorem d_E_cell_77 : decode b_E_cell 77 = .ok (.imul, 1) := by decide +kernel
theorem d_E_cell_78 : decode b_E_cell 78 = .ok (.iload_n 2, 1) := by decide +kernel
theorem d_E_cell_79 : decode b_E_cell 79 = .ok (.iadd, 1) := by decide +kernel
theorem d_E_cell_80 : decode b_E_cell 80 = .ok (.laload, 1) := by decide +kernel
theorem d_E_cell_81 : decode b_E_cell 81 = .ok (.lreturn, 1) := by decide +kernel
theorem d_E_size_0 : decode b_E_size 0 = .ok (.aload_n 0, 1) := by decide +kernel
theorem d_E_size_1 : decode b_E_size 1 = .ok (.getfield 47, 3) := by decide +kernel
theorem d_E_size_4 : decode b_E_size 4 = .ok (.ifCond .eq 18, 3) := by decide +kernel
theorem d_E_size_7 : decode b_E_size 7 = .ok (.iload_n 1, 1) := by decide +kernel
theorem d_E_size_8 : decode b_E_size 8 = .ok (.ifCond .lt 14, 3) := by decide +kernel
theorem d_E_size_11 : decode b_E_size 11 = .ok (.iload_n 1, 1) := by decide +kernel
theorem d_E_size_12 : decode b_E_size 12 = .ok (.aload_n 0, 1) := by decide +kernel
theorem d_E_size_13 : decode b_E_size 13 = .ok (.getfield 40, 3) := by decide +kernel
theorem d_E_size_16 : decode b_E_size 16 = .ok (.getfield 100, 3) := by decide +kernel
theorem d_E_size_19 : decode b_E_size 19 = .ok (.if_icmp .lt 13, 3) := by decide +kernel
theorem d_E_size_22 : decode b_E_size 22 = .ok (.new 163, 3) := by decide +kernel
theorem d_E_size_25 : decode b_E_size 25 = .ok (.dup, 1) := by decide +kernel
theorem d_E_size_26 : decode b_E_size 26 = .ok (.ldc 172, 2) := by decide +kernel
theorem d_E_size_28 : decode b_E_size 28 = .ok (.invokespecial 167, 3) := by decide +kernel
theorem d_E_size_31 : decode b_E_size 31 = .ok (.athrow, 1) := by decide +kernel
theorem d_E_size_32 : decode b_E_size 32 = .ok (.aload_n 0, 1) := by decide +kernel
theorem d_E_size_33 : decode b_E_size 33 = .ok (.getfield 32, 3) := by decide +kernel
theorem d_E_size_36 : decode b_E_size 36 = .ok (.getfield 155, 3) := by decide +kernel
theorem d_E_size_39 : decode b_E_size 39 = .ok (.iload_n 1, 1) := by decide +kernel
theorem d_E_size_40 : decode b_E_size 40 = .ok (.aaload, 1) := by decide +kernel
theorem d_E_size_41 : decode b_E_size 41 = .ok (.getfield 68, 3) := by decide +kernel
theorem d_E_size_44 : decode b_E_size 44 = .ok (.ireturn, 1) := by decide +kernel
theorem d_E_rounds_0 : decode b_E_rounds 0 = .ok (.aload_n 0, 1) := by decide +kernel
theorem d_E_rounds_1 : decode b_E_rounds 1 = .ok (.getfield 47, 3) := by decide +kernel
theorem d_E_rounds_4 : decode b_E_rounds 4 = .ok (.ifCond .eq 38, 3) := by decide +kernel
theorem d_E_rounds_7 : decode b_E_rounds 7 = .ok (.iload_n 1, 1) := by decide +kernel
theorem d_E_rounds_8 : decode b_E_rounds 8 = .ok (.ifCond .lt 34, 3) := by decide +kernel
theorem d_E_rounds_11 : decode b_E_rounds 11 = .ok (.iload_n 1, 1) := by decide +kernel
theorem d_E_rounds_12 : decode b_E_rounds 12 = .ok (.aload_n 0, 1) := by decide +kernel
theorem d_E_rounds_13 : decode b_E_rounds 13 = .ok (.getfield 40, 3) := by decide +kernel
theorem d_E_rounds_16 : decode b_E_rounds 16 = .ok (.getfield 138, 3) := by decide +kernel
theorem d_E_rounds_19 : decode b_E_rounds 19 = .ok (.if_icmp .ge 23, 3) := by decide +kernel
theorem d_E_rounds_22 : decode b_E_rounds 22 = .ok (.iload_n 2, 1) := by decide +kernel
theorem d_E_rounds_23 : decode b_E_rounds 23 = .ok (.ifCond .lt 19, 3) := by decide +kernel
theorem d_E_rounds_26 : decode b_E_rounds 26 = .ok (.iload_n 2, 1) := by decide +kernel
theorem d_E_rounds_27 : decode b_E_rounds 27 = .ok (.aload_n 0, 1) := by decide +kernel
theorem d_E_rounds_28 : decode b_E_rounds 28 = .ok (.getfield 32, 3) := by decide +kernel
theorem d_E_rounds_31 : decode b_E_rounds 31 = .ok (.getfield 174, 3) := by decide +kernel
theorem d_E_rounds_34 : decode b_E_rounds 34 = .ok (.iload_n 1, 1) := by decide +kernel
theorem d_E_rounds_35 : decode b_E_rounds 35 = .ok (.bipush 31, 2) := by decide +kernel
theorem d_E_rounds_37 : decode b_E_rounds 37 = .ok (.imul, 1) := by decide +kernel
theorem d_E_rounds_38 : decode b_E_rounds 38 = .ok (.iaload, 1) := by decide +kernel
theorem d_E_rounds_39 : decode b_E_rounds 39 = .ok (.if_icmp .le 13, 3) := by decide +kernel
theorem d_E_rounds_42 : decode b_E_rounds 42 = .ok (.new 163, 3) := by decide +kernel
theorem d_E_rounds_45 : decode b_E_rounds 45 = .ok (.dup, 1) := by decide +kernel
theorem d_E_rounds_46 : decode b_E_rounds 46 = .ok (.ldc 177, 2) := by decide +kernel
theorem d_E_rounds_48 : decode b_E_rounds 48 = .ok (.invokespecial 167, 3) := by decide +kernel
theorem d_E_rounds_51 : decode b_E_rounds 51 = .ok (.athrow, 1) := by decide +kernel
theorem d_E_rounds_52 : decode b_E_rounds 52 = .ok (.aload_n 0, 1) := by decide +kernel
theorem d_E_rounds_53 : decode b_E_rounds 53 = .ok (.getfield 32, 3) := by decide +kernel
theorem d_E_rounds_56 : decode b_E_rounds 56 = .ok (.getfield 174, 3) := by decide +kernel
theorem d_E_rounds_59 : decode b_E_rounds 59 = .ok (.iload_n 1, 1) := by decide +kernel
theorem d_E_rounds_60 : decode b_E_rounds 60 = .ok (.bipush 31, 2) := by decide +kernel
theorem d_E_rounds_62 : decode b_E_rounds 62 = .ok (.imul, 1) := by decide +kernel
theorem d_E_rounds_63 : decode b_E_rounds 63 = .ok (.iload_n 2, 1) := by decide +kernel
theorem d_E_rounds_64 : decode b_E_rounds 64 = .ok (.iadd, 1) := by decide +kernel
theorem d_E_rounds_65 : decode b_E_rounds 65 = .ok (.iaload, 1) := by decide +kernel
theorem d_E_rounds_66 : decode b_E_rounds 66 = .ok (.ireturn, 1) := by decide +kernel
