theorem d_Lw_table_0 : decode b_Lw_table 0 = .ok (.aload_n 2, 1) := by decide +kernel
theorem d_Lw_table_1 : decode b_Lw_table 1 = .ok (.iconst 0, 1) := by decide +kernel
theorem d_Lw_table_2 : decode b_Lw_table 2 = .ok (.aload_n 0, 1) := by decide +kernel
theorem d_Lw_table_3 : decode b_Lw_table 3 = .ok (.iload_n 1, 1) := by decide +kernel
theorem d_Lw_table_4 : decode b_Lw_table 4 = .ok (.invokevirtual 7, 3) := by decide +kernel
theorem d_Lw_table_7 : decode b_Lw_table 7 = .ok (.i2l, 1) := by decide +kernel
theorem d_Lw_table_8 : decode b_Lw_table 8 = .ok (.lastore, 1) := by decide +kernel
theorem d_Lw_table_9 : decode b_Lw_table 9 = .ok (.goto 9, 3) := by decide +kernel
theorem d_Lw_table_12 : decode b_Lw_table 12 = .ok (.astore_n 3, 1) := by decide +kernel
theorem d_Lw_table_13 : decode b_Lw_table 13 = .ok (.iconst 1, 1) := by decide +kernel
theorem d_Lw_table_14 : decode b_Lw_table 14 = .ok (.ireturn, 1) := by decide +kernel
theorem d_Lw_table_15 : decode b_Lw_table 15 = .ok (.astore_n 3, 1) := by decide +kernel
theorem d_Lw_table_16 : decode b_Lw_table 16 = .ok (.iconst 2, 1) := by decide +kernel
theorem d_Lw_table_17 : decode b_Lw_table 17 = .ok (.ireturn, 1) := by decide +kernel
theorem d_Lw_table_18 : decode b_Lw_table 18 = .ok (.iconst 0, 1) := by decide +kernel
theorem d_Lw_table_19 : decode b_Lw_table 19 = .ok (.ireturn, 1) := by decide +kernel
theorem d_Lw_row_0 : decode b_Lw_row 0 = .ok (.aload 6, 2) := by decide +kernel
theorem d_Lw_row_2 : decode b_Lw_row 2 = .ok (.iconst 0, 1) := by decide +kernel
theorem d_Lw_row_3 : decode b_Lw_row 3 = .ok (.aload_n 0, 1) := by decide +kernel
theorem d_Lw_row_4 : decode b_Lw_row 4 = .ok (.iload_n 1, 1) := by decide +kernel
theorem d_Lw_row_5 : decode b_Lw_row 5 = .ok (.iload_n 2, 1) := by decide +kernel
theorem d_Lw_row_6 : decode b_Lw_row 6 = .ok (.iload_n 3, 1) := by decide +kernel
theorem d_Lw_row_7 : decode b_Lw_row 7 = .ok (.iload 4, 2) := by decide +kernel
theorem d_Lw_row_9 : decode b_Lw_row 9 = .ok (.iload 5, 2) := by decide +kernel
theorem d_Lw_row_11 : decode b_Lw_row 11 = .ok (.invokevirtual 17, 3) := by decide +kernel
theorem d_Lw_row_14 : decode b_Lw_row 14 = .ok (.i2l, 1) := by decide +kernel
theorem d_Lw_row_15 : decode b_Lw_row 15 = .ok (.lastore, 1) := by decide +kernel
theorem d_Lw_row_16 : decode b_Lw_row 16 = .ok (.goto 11, 3) := by decide +kernel
theorem d_Lw_row_19 : decode b_Lw_row 19 = .ok (.astore 7, 2) := by decide +kernel
theorem d_Lw_row_21 : decode b_Lw_row 21 = .ok (.iconst 1, 1) := by decide +kernel
theorem d_Lw_row_22 : decode b_Lw_row 22 = .ok (.ireturn, 1) := by decide +kernel
theorem d_Lw_row_23 : decode b_Lw_row 23 = .ok (.astore 7, 2) := by decide +kernel
theorem d_Lw_row_25 : decode b_Lw_row 25 = .ok (.iconst 2, 1) := by decide +kernel
theorem d_Lw_row_26 : decode b_Lw_row 26 = .ok (.ireturn, 1) := by decide +kernel
theorem d_Lw_row_27 : decode b_Lw_row 27 = .ok (.iconst 0, 1) := by decide +kernel
theorem d_Lw_row_28 : decode b_Lw_row 28 = .ok (.ireturn, 1) := by decide +kernel
theorem d_Lw_clear_0 : decode b_Lw_clear 0 = .ok (.aload_n 2, 1) := by decide +kernel
theorem d_Lw_clear_1 : decode b_Lw_clear 1 = .ok (.iconst 0, 1) := by decide +kernel
theorem d_Lw_clear_2 : decode b_Lw_clear 2 = .ok (.aload_n 0, 1) := by decide +kernel
theorem d_Lw_clear_3 : decode b_Lw_clear 3 = .ok (.iload_n 1, 1) := by decide +kernel
theorem d_Lw_clear_4 : decode b_Lw_clear 4 = .ok (.invokevirtual 21, 3) := by decide +kernel
theorem d_Lw_clear_7 : decode b_Lw_clear 7 = .ok (.i2l, 1) := by decide +kernel
theorem d_Lw_clear_8 : decode b_Lw_clear 8 = .ok (.lastore, 1) := by decide +kernel
theorem d_Lw_clear_9 : decode b_Lw_clear 9 = .ok (.goto 6, 3) := by decide +kernel
theorem d_Lw_clear_12 : decode b_Lw_clear 12 = .ok (.astore_n 3, 1) := by decide +kernel
theorem d_Lw_clear_13 : decode b_Lw_clear 13 = .ok (.iconst 1, 1) := by decide +kernel
theorem d_Lw_clear_14 : decode b_Lw_clear 14 = .ok (.ireturn, 1) := by decide +kernel
theorem d_Lw_clear_15 : decode b_Lw_clear 15 = .ok (.iconst 0, 1) := by decide +kernel
theorem d_Lw_clear_16 : decode b_Lw_clear 16 = .ok (.ireturn, 1) := by decide +kernel
theorem d_Lw_prepare_0 : decode b_Lw_prepare 0 = .ok (.aload_n 1, 1) := by decide +kernel
theorem d_Lw_prepare_1 : decode b_Lw_prepare 1 = .ok (.iconst 0, 1) := by decide +kernel
theorem d_Lw_prepare_2 : decode b_Lw_prepare 2 = .ok (.aload_n 0, 1) := by decide +kernel
theorem d_Lw_prepare_3 : decode b_Lw_prepare 3 = .ok (.invokevirtual 24, 3) := by decide +kernel
theorem d_Lw_prepare_6 : decode b_Lw_prepare 6 = .ok (.i2l, 1) := by decide +kernel
theorem d_Lw_prepare_7 : decode b_Lw_prepare 7 = .ok (.lastore, 1) := by decide +kernel
theorem d_Lw_prepare_8 : decode b_Lw_prepare 8 = .ok (.goto 6, 3) := by decide +kernel
theorem d_Lw_prepare_11 : decode b_Lw_prepare 11 = .ok (.astore_n 2, 1) := by decide +kernel
theorem d_Lw_prepare_12 : decode b_Lw_prepare 12 = .ok (.iconst 1, 1) := by decide +kernel
theorem d_Lw_prepare_13 : decode b_Lw_prepare 13 = .ok (.ireturn, 1) := by decide +kernel
theorem d_Lw_prepare_14 : decode b_Lw_prepare 14 = .ok (.iconst 0, 1) := by decide +kernel
theorem d_Lw_prepare_15 : decode b_Lw_prepare 15 = .ok (.ireturn, 1) := by decide +kernel
theorem d_Lw_part_0 : decode b_Lw_part 0 = .ok (.aload_n 3, 1) := by decide +kernel
theorem d_Lw_part_1 : decode b_Lw_part 1 = .ok (.iconst 0, 1) := by decide +kernel
theorem d_Lw_part_2 : decode b_Lw_part 2 = .ok (.aload_n 0, 1) := by decide +kernel
theorem d_Lw_part_3 : decode b_Lw_part 3 = .ok (.iload_n 1, 1) := by decide +kernel
theorem d_Lw_part_4 : decode b_Lw_part 4 = .ok (.iload_n 2, 1) := by decide +kernel
theorem d_Lw_part_5 : decode b_Lw_part 5 = .ok (.invokevirtual 28, 3) := by decide +kernel
theorem d_Lw_part_8 : decode b_Lw_part 8 = .ok (.i2l, 1) := by decide +kernel
theorem d_Lw_part_9 : decode b_Lw_part 9 = .ok (.lastore, 1) := by decide +kernel
theorem d_Lw_part_10 : decode b_Lw_part 10 = .ok (.goto 11, 3) := by decide +kernel
theorem d_Lw_part_13 : decode b_Lw_part 13 = .ok (.astore 4, 2) := by decide +kernel
theorem d_Lw_part_15 : decode b_Lw_part 15 = .ok (.iconst 1, 1) := by decide +kernel
theorem d_Lw_part_16 : decode b_Lw_part 16 = .ok (.ireturn, 1) := by decide +kernel
theorem d_Lw_part_17 : decode b_Lw_part 17 = .ok (.astore 4, 2) := by decide +kernel
theorem d_Lw_part_19 : decode b_Lw_part 19 = .ok (.iconst 2, 1) := by decide +kernel
theorem d_Lw_part_20 : decode b_Lw_part 20 = .ok (.ireturn, 1) := by decide +kernel
theorem d_Lw_part_21 : decode b_Lw_part 21 = .ok (.iconst 0, 1) := by decide +kernel
theorem d_Lw_part_22 : decode b_Lw_part 22 = .ok (.ireturn, 1) := by decide +kernel
theorem d_Lw_run_0 : decode b_Lw_run 0 = .ok (.aload_n 3, 1) := by decide +kernel
theorem d_Lw_run_1 : decode b_Lw_run 1 = .ok (.iconst 0, 1) := by decide +kernel
theorem d_Lw_run_2 : decode b_Lw_run 2 = .ok (.aload_n 0, 1) := by decide +kernel
theorem d_Lw_run_3 : decode b_Lw_run 3 = .ok (.iload_n 1, 1) := by decide +kernel
theorem d_Lw_run_4 : decode b_Lw_run 4 = .ok (.iload_n 2, 1) := by decide +kernel
theorem d_Lw_run_5 : decode b_Lw_run 5 = .ok (.invokevirtual 34, 3) := by decide +kernel
theorem d_Lw_run_8 : decode b_Lw_run 8 = .ok (.i2l, 1) := by decide +kernel
theorem d_Lw_run_9 : decode b_Lw_run 9 = .ok (.lastore, 1) := by decide +kernel
theorem d_Lw_run_10 : decode b_Lw_run 10 = .ok (.goto 19, 3) := by decide +kernel
theorem d_Lw_run_13 : decode b_Lw_run 13 = .ok (.astore 4, 2) := by decide +kernel
theorem d_Lw_run_15 : decode b_Lw_run 15 = .ok (.iconst 1, 1) := by decide +kernel
theorem d_Lw_run_16 : decode b_Lw_run 16 = .ok (.ireturn, 1) := by decide +kernel
theorem d_Lw_run_17 : decode b_Lw_run 17 = .ok (.astore 4, 2) := by decide +kernel
theorem d_Lw_run_19 : decode b_Lw_run 19 = .ok (.iconst 2, 1) := by decide +kernel
theorem d_Lw_run_20 : decode b_Lw_run 20 = .ok (.ireturn, 1) := by decide +kernel
theorem d_Lw_run_21 : decode b_Lw_run 21 = .ok (.astore 4, 2) := by decide +kernel
theorem d_Lw_run_23 : decode b_Lw_run 23 = .ok (.iconst 3, 1) := by decide +kernel
theorem d_Lw_run_24 : decode b_Lw_run 24 = .ok (.ireturn, 1) := by decide +kernel
theorem d_Lw_run_25 : decode b_Lw_run 25 = .ok (.astore 4, 2) := by decide +kernel
theorem d_Lw_run_27 : decode b_Lw_run 27 = .ok (.iconst 4, 1) := by decide +kernel
theorem d_Lw_run_28 : decode b_Lw_run 28 = .ok (.ireturn, 1) := by decide +kernel
theorem d_Lw_run_29 : decode b_Lw_run 29 = .ok (.iconst 0, 1) := by decide +kernel
theorem d_Lw_run_30 : decode b_Lw_run 30 = .ok (.ireturn, 1) := by decide +kernel
theorem d_Lw_cell2_0 : decode b_Lw_cell2 0 = .ok (.aload_n 3, 1) := by decide +kernel
theorem d_Lw_cell2_1 : decode b_Lw_cell2 1 = .ok (.iconst 0, 1) := by decide +kernel
theorem d_Lw_cell2_2 : decode b_Lw_cell2 2 = .ok (.aload_n 0, 1) := by decide +kernel
theorem d_Lw_cell2_3 : decode b_Lw_cell2 3 = .ok (.iload_n 1, 1) := by decide +kernel
theorem d_Lw_cell2_4 : decode b_Lw_cell2 4 = .ok (.iload_n 2, 1) := by decide +kernel
theorem d_Lw_cell2_5 : decode b_Lw_cell2 5 = .ok (.invokevirtual 41, 3) := by decide +kernel
theorem d_Lw_cell2_8 : decode b_Lw_cell2 8 = .ok (.lastore, 1) := by decide +kernel
theorem d_Lw_cell2_9 : decode b_Lw_cell2 9 = .ok (.goto 7, 3) := by decide +kernel
theorem d_Lw_cell2_12 : decode b_Lw_cell2 12 = .ok (.astore 4, 2) := by decide +kernel
theorem d_Lw_cell2_14 : decode b_Lw_cell2 14 = .ok (.iconst 1, 1) := by decide +kernel
theorem d_Lw_cell2_15 : decode b_Lw_cell2 15 = .ok (.ireturn, 1) := by decide +kernel
theorem d_Lw_cell2_16 : decode b_Lw_cell2 16 = .ok (.iconst 0, 1) := by decide +kernel
theorem d_Lw_cell2_17 : decode b_Lw_cell2 17 = .ok (.ireturn, 1) := by decide +kernel
theorem d_Lw_size_0 : decode b_Lw_size 0 = .ok (.aload_n 2, 1) := by decide +kernel
theorem d_Lw_size_1 : decode b_Lw_size 1 = .ok (.iconst 0, 1) := by decide +kernel
theorem d_Lw_size_2 : decode b_Lw_size 2 = .ok (.aload_n 0, 1) := by decide +kernel
theorem d_Lw_size_3 : decode b_Lw_size 3 = .ok (.iload_n 1, 1) := by decide +kernel
theorem d_Lw_size_4 : decode b_Lw_size 4 = .ok (.invokevirtual 47, 3) := by decide +kernel
theorem d_Lw_size_7 : decode b_Lw_size 7 = .ok (.i2l, 1) := by decide +kernel
theorem d_Lw_size_8 : decode b_Lw_size 8 = .ok (.lastore, 1) := by decide +kernel
theorem d_Lw_size_9 : decode b_Lw_size 9 = .ok (.goto 6, 3) := by decide +kernel
theorem d_Lw_size_12 : decode b_Lw_size 12 = .ok (.astore_n 3, 1) := by decide +kernel
theorem d_Lw_size_13 : decode b_Lw_size 13 = .ok (.iconst 1, 1) := by decide +kernel
theorem d_Lw_size_14 : decode b_Lw_size 14 = .ok (.ireturn, 1) := by decide +kernel
theorem d_Lw_size_15 : decode b_Lw_size 15 = .ok (.iconst 0, 1) := by decide +kernel
theorem d_Lw_size_16 : decode b_Lw_size 16 = .ok (.ireturn, 1) := by decide +kernel
theorem d_Lw_rounds_0 : decode b_Lw_rounds 0 = .ok (.aload_n 3, 1) := by decide +kernel
theorem d_Lw_rounds_1 : decode b_Lw_rounds 1 = .ok (.iconst 0, 1) := by decide +kernel
theorem d_Lw_rounds_2 : decode b_Lw_rounds 2 = .ok (.aload_n 0, 1) := by decide +kernel
theorem d_Lw_rounds_3 : decode b_Lw_rounds 3 = .ok (.iload_n 1, 1) := by decide +kernel
theorem d_Lw_rounds_4 : decode b_Lw_rounds 4 = .ok (.iload_n 2, 1) := by decide +kernel
theorem d_Lw_rounds_5 : decode b_Lw_rounds 5 = .ok (.invokevirtual 50, 3) := by decide +kernel
theorem d_Lw_rounds_8 : decode b_Lw_rounds 8 = .ok (.i2l, 1) := by decide +kernel
theorem d_Lw_rounds_9 : decode b_Lw_rounds 9 = .ok (.lastore, 1) := by decide +kernel
theorem d_Lw_rounds_10 : decode b_Lw_rounds 10 = .ok (.goto 7, 3) := by decide +kernel
theorem d_Lw_rounds_13 : decode b_Lw_rounds 13 = .ok (.astore 4, 2) := by decide +kernel
theorem d_Lw_rounds_15 : decode b_Lw_rounds 15 = .ok (.iconst 1, 1) := by decide +kernel
theorem d_Lw_rounds_16 : decode b_Lw_rounds 16 = .ok (.ireturn, 1) := by decide +kernel
theorem d_Lw_rounds_17 : decode b_Lw_rounds 17 = .ok (.iconst 0, 1) := by decide +kernel
theorem d_Lw_rounds_18 : decode b_Lw_rounds 18 = .ok (.ireturn, 1) := by decide +kernel
theorem d_Lw_law_0 : decode b_Lw_law 0 = .ok (.new 8, 3) := by decide +kernel
theorem d_Lw_law_3 : decode b_Lw_law 3 = .ok (.dup, 1) := by decide +kernel
theorem d_Lw_law_4 : decode b_Lw_law 4 = .ok (.invokespecial 53, 3) := by decide +kernel
theorem d_Lw_law_7 : decode b_Lw_law 7 = .ok (.astore_n 1, 1) := by decide +kernel
theorem d_Lw_law_8 : decode b_Lw_law 8 = .ok (.new 54, 3) := by decide +kernel
theorem d_Lw_law_11 : decode b_Lw_law 11 = .ok (.dup, 1) := by decide +kernel
theorem d_Lw_law_12 : decode b_Lw_law 12 = .ok (.invokespecial 56, 3) := by decide +kernel
theorem d_Lw_law_15 : decode b_Lw_law 15 = .ok (.astore_n 2, 1) := by decide +kernel
theorem d_Lw_law_16 : decode b_Lw_law 16 = .ok (.iconst 1, 1) := by decide +kernel
theorem d_Lw_law_17 : decode b_Lw_law 17 = .ok (.newarray .long, 2) := by decide +kernel
theorem d_Lw_law_19 : decode b_Lw_law 19 = .ok (.astore_n 3, 1) := by decide +kernel
theorem d_Lw_law_20 : decode b_Lw_law 20 = .ok (.iconst 0, 1) := by decide +kernel
theorem d_Lw_law_21 : decode b_Lw_law 21 = .ok (.istore 4, 2) := by decide +kernel
theorem d_Lw_law_23 : decode b_Lw_law 23 = .ok (.iload 4, 2) := by decide +kernel
theorem d_Lw_law_25 : decode b_Lw_law 25 = .ok (.aload_n 0, 1) := by decide +kernel
theorem d_Lw_law_26 : decode b_Lw_law 26 = .ok (.arraylength, 1) := by decide +kernel
theorem d_Lw_law_27 : decode b_Lw_law 27 = .ok (.bipush 6, 2) := by decide +kernel
theorem d_Lw_law_29 : decode b_Lw_law 29 = .ok (.isub, 1) := by decide +kernel
theorem d_Lw_law_30 : decode b_Lw_law 30 = .ok (.if_icmp .gt 749, 3) := by decide +kernel
theorem d_Lw_law_33 : decode b_Lw_law 33 = .ok (.aload_n 0, 1) := by decide +kernel
theorem d_Lw_law_34 : decode b_Lw_law 34 = .ok (.iload 4, 2) := by decide +kernel
theorem d_Lw_law_36 : decode b_Lw_law 36 = .ok (.iaload, 1) := by decide +kernel
theorem d_Lw_law_37 : decode b_Lw_law 37 = .ok (.bipush 15, 2) := by decide +kernel
theorem d_Lw_law_39 : decode b_Lw_law 39 = .ok (.iand, 1) := by decide +kernel
theorem d_Lw_law_40 : decode b_Lw_law 40 = .ok (.tableswitch 733 0 10 #[60, 116, 220, 276, 349, 393, 406, 474, 542, 609, 665], 60) := by decide +kernel
theorem d_Lw_law_100 : decode b_Lw_law 100 = .ok (.aload_n 1, 1) := by decide +kernel
theorem d_Lw_law_101 : decode b_Lw_law 101 = .ok (.aload_n 0, 1) := by decide +kernel
theorem d_Lw_law_102 : decode b_Lw_law 102 = .ok (.iload 4, 2) := by decide +kernel
theorem d_Lw_law_104 : decode b_Lw_law 104 = .ok (.iconst 1, 1) := by decide +kernel
theorem d_Lw_law_105 : decode b_Lw_law 105 = .ok (.iadd, 1) := by decide +kernel
theorem d_Lw_law_106 : decode b_Lw_law 106 = .ok (.iaload, 1) := by decide +kernel
theorem d_Lw_law_107 : decode b_Lw_law 107 = .ok (.aload_n 3, 1) := by decide +kernel
theorem d_Lw_law_108 : decode b_Lw_law 108 = .ok (.invokestatic 57, 3) := by decide +kernel
theorem d_Lw_law_111 : decode b_Lw_law 111 = .ok (.istore 5, 2) := by decide +kernel
theorem d_Lw_law_113 : decode b_Lw_law 113 = .ok (.aload_n 2, 1) := by decide +kernel
theorem d_Lw_law_114 : decode b_Lw_law 114 = .ok (.aload_n 0, 1) := by decide +kernel
theorem d_Lw_law_115 : decode b_Lw_law 115 = .ok (.iload 4, 2) := by decide +kernel
theorem d_Lw_law_117 : decode b_Lw_law 117 = .ok (.iconst 1, 1) := by decide +kernel
theorem d_Lw_law_118 : decode b_Lw_law 118 = .ok (.iadd, 1) := by decide +kernel
theorem d_Lw_law_119 : decode b_Lw_law 119 = .ok (.iaload, 1) := by decide +kernel
theorem d_Lw_law_120 : decode b_Lw_law 120 = .ok (.invokevirtual 62, 3) := by decide +kernel
theorem d_Lw_law_123 : decode b_Lw_law 123 = .ok (.istore 6, 2) := by decide +kernel
theorem d_Lw_law_125 : decode b_Lw_law 125 = .ok (.aload_n 2, 1) := by decide +kernel
theorem d_Lw_law_126 : decode b_Lw_law 126 = .ok (.invokevirtual 63, 3) := by decide +kernel
theorem d_Lw_law_129 : decode b_Lw_law 129 = .ok (.iload 5, 2) := by decide +kernel
theorem d_Lw_law_131 : decode b_Lw_law 131 = .ok (.if_icmp .eq 5, 3) := by decide +kernel
theorem d_Lw_law_134 : decode b_Lw_law 134 = .ok (.iconst 0, 1) := by decide +kernel
theorem d_Lw_law_135 : decode b_Lw_law 135 = .ok (.ireturn, 1) := by decide +kernel
theorem d_Lw_law_136 : decode b_Lw_law 136 = .ok (.iload 5, 2) := by decide +kernel
theorem d_Lw_law_138 : decode b_Lw_law 138 = .ok (.ifCond .ne 15, 3) := by decide +kernel
theorem d_Lw_law_141 : decode b_Lw_law 141 = .ok (.aload_n 3, 1) := by decide +kernel
theorem d_Lw_law_142 : decode b_Lw_law 142 = .ok (.iconst 0, 1) := by decide +kernel
theorem d_Lw_law_143 : decode b_Lw_law 143 = .ok (.laload, 1) := by decide +kernel
theorem d_Lw_law_144 : decode b_Lw_law 144 = .ok (.iload 6, 2) := by decide +kernel
theorem d_Lw_law_146 : decode b_Lw_law 146 = .ok (.i2l, 1) := by decide +kernel
theorem d_Lw_law_147 : decode b_Lw_law 147 = .ok (.lcmp, 1) := by decide +kernel
theorem d_Lw_law_148 : decode b_Lw_law 148 = .ok (.ifCond .eq 5, 3) := by decide +kernel
theorem d_Lw_law_151 : decode b_Lw_law 151 = .ok (.iconst 0, 1) := by decide +kernel
theorem d_Lw_law_152 : decode b_Lw_law 152 = .ok (.ireturn, 1) := by decide +kernel
theorem d_Lw_law_153 : decode b_Lw_law 153 = .ok (.goto 620, 3) := by decide +kernel
theorem d_Lw_law_156 : decode b_Lw_law 156 = .ok (.aload_n 1, 1) := by decide +kernel
theorem d_Lw_law_157 : decode b_Lw_law 157 = .ok (.aload_n 0, 1) := by decide +kernel
theorem d_Lw_law_158 : decode b_Lw_law 158 = .ok (.iload 4, 2) := by decide +kernel
theorem d_Lw_law_160 : decode b_Lw_law 160 = .ok (.iconst 1, 1) := by decide +kernel
theorem d_Lw_law_161 : decode b_Lw_law 161 = .ok (.iadd, 1) := by decide +kernel
theorem d_Lw_law_162 : decode b_Lw_law 162 = .ok (.iaload, 1) := by decide +kernel
theorem d_Lw_law_163 : decode b_Lw_law 163 = .ok (.aload_n 0, 1) := by decide +kernel
theorem d_Lw_law_164 : decode b_Lw_law 164 = .ok (.iload 4, 2) := by decide +kernel
theorem d_Lw_law_166 : decode b_Lw_law 166 = .ok (.iconst 2, 1) := by decide +kernel
theorem d_Lw_law_167 : decode b_Lw_law 167 = .ok (.iadd, 1) := by decide +kernel
theorem d_Lw_law_168 : decode b_Lw_law 168 = .ok (.iaload, 1) := by decide +kernel
theorem d_Lw_law_169 : decode b_Lw_law 169 = .ok (.aload_n 0, 1) := by decide +kernel
theorem d_Lw_law_170 : decode b_Lw_law 170 = .ok (.iload 4, 2) := by decide +kernel
theorem d_Lw_law_172 : decode b_Lw_law 172 = .ok (.iconst 3, 1) := by decide +kernel
theorem d_Lw_law_173 : decode b_Lw_law 173 = .ok (.iadd, 1) := by decide +kernel
theorem d_Lw_law_174 : decode b_Lw_law 174 = .ok (.iaload, 1) := by decide +kernel
theorem d_Lw_law_175 : decode b_Lw_law 175 = .ok (.aload_n 0, 1) := by decide +kernel
theorem d_Lw_law_176 : decode b_Lw_law 176 = .ok (.iload 4, 2) := by decide +kernel
theorem d_Lw_law_178 : decode b_Lw_law 178 = .ok (.iconst 4, 1) := by decide +kernel
theorem d_Lw_law_179 : decode b_Lw_law 179 = .ok (.iadd, 1) := by decide +kernel
theorem d_Lw_law_180 : decode b_Lw_law 180 = .ok (.iaload, 1) := by decide +kernel
theorem d_Lw_law_181 : decode b_Lw_law 181 = .ok (.aload_n 0, 1) := by decide +kernel
theorem d_Lw_law_182 : decode b_Lw_law 182 = .ok (.iload 4, 2) := by decide +kernel
theorem d_Lw_law_184 : decode b_Lw_law 184 = .ok (.iconst 5, 1) := by decide +kernel
theorem d_Lw_law_185 : decode b_Lw_law 185 = .ok (.iadd, 1) := by decide +kernel
theorem d_Lw_law_186 : decode b_Lw_law 186 = .ok (.iaload, 1) := by decide +kernel
theorem d_Lw_law_187 : decode b_Lw_law 187 = .ok (.aload_n 3, 1) := by decide +kernel
theorem d_Lw_law_188 : decode b_Lw_law 188 = .ok (.invokestatic 66, 3) := by decide +kernel
theorem d_Lw_law_191 : decode b_Lw_law 191 = .ok (.istore 5, 2) := by decide +kernel
theorem d_Lw_law_193 : decode b_Lw_law 193 = .ok (.aload_n 2, 1) := by decide +kernel
theorem d_Lw_law_194 : decode b_Lw_law 194 = .ok (.aload_n 0, 1) := by decide +kernel
theorem d_Lw_law_195 : decode b_Lw_law 195 = .ok (.iload 4, 2) := by decide +kernel
theorem d_Lw_law_197 : decode b_Lw_law 197 = .ok (.iconst 1, 1) := by decide +kernel
theorem d_Lw_law_198 : decode b_Lw_law 198 = .ok (.iadd, 1) := by decide +kernel
theorem d_Lw_law_199 : decode b_Lw_law 199 = .ok (.iaload, 1) := by decide +kernel
theorem d_Lw_law_200 : decode b_Lw_law 200 = .ok (.aload_n 0, 1) := by decide +kernel
theorem d_Lw_law_201 : decode b_Lw_law 201 = .ok (.iload 4, 2) := by decide +kernel
theorem d_Lw_law_203 : decode b_Lw_law 203 = .ok (.iconst 2, 1) := by decide +kernel
theorem d_Lw_law_204 : decode b_Lw_law 204 = .ok (.iadd, 1) := by decide +kernel
theorem d_Lw_law_205 : decode b_Lw_law 205 = .ok (.iaload, 1) := by decide +kernel
theorem d_Lw_law_206 : decode b_Lw_law 206 = .ok (.aload_n 0, 1) := by decide +kernel
theorem d_Lw_law_207 : decode b_Lw_law 207 = .ok (.iload 4, 2) := by decide +kernel
theorem d_Lw_law_209 : decode b_Lw_law 209 = .ok (.iconst 3, 1) := by decide +kernel
theorem d_Lw_law_210 : decode b_Lw_law 210 = .ok (.iadd, 1) := by decide +kernel
theorem d_Lw_law_211 : decode b_Lw_law 211 = .ok (.iaload, 1) := by decide +kernel
theorem d_Lw_law_212 : decode b_Lw_law 212 = .ok (.aload_n 0, 1) := by decide +kernel
theorem d_Lw_law_213 : decode b_Lw_law 213 = .ok (.iload 4, 2) := by decide +kernel
theorem d_Lw_law_215 : decode b_Lw_law 215 = .ok (.iconst 4, 1) := by decide +kernel
theorem d_Lw_law_216 : decode b_Lw_law 216 = .ok (.iadd, 1) := by decide +kernel
theorem d_Lw_law_217 : decode b_Lw_law 217 = .ok (.iaload, 1) := by decide +kernel
theorem d_Lw_law_218 : decode b_Lw_law 218 = .ok (.aload_n 0, 1) := by decide +kernel
theorem d_Lw_law_219 : decode b_Lw_law 219 = .ok (.iload 4, 2) := by decide +kernel
theorem d_Lw_law_221 : decode b_Lw_law 221 = .ok (.iconst 5, 1) := by decide +kernel
theorem d_Lw_law_222 : decode b_Lw_law 222 = .ok (.iadd, 1) := by decide +kernel
theorem d_Lw_law_223 : decode b_Lw_law 223 = .ok (.iaload, 1) := by decide +kernel
theorem d_Lw_law_224 : decode b_Lw_law 224 = .ok (.invokevirtual 69, 3) := by decide +kernel
theorem d_Lw_law_227 : decode b_Lw_law 227 = .ok (.istore 6, 2) := by decide +kernel
theorem d_Lw_law_229 : decode b_Lw_law 229 = .ok (.aload_n 2, 1) := by decide +kernel
theorem d_Lw_law_230 : decode b_Lw_law 230 = .ok (.invokevirtual 63, 3) := by decide +kernel
theorem d_Lw_law_233 : decode b_Lw_law 233 = .ok (.iload 5, 2) := by decide +kernel
theorem d_Lw_law_235 : decode b_Lw_law 235 = .ok (.if_icmp .eq 5, 3) := by decide +kernel
theorem d_Lw_law_238 : decode b_Lw_law 238 = .ok (.iconst 0, 1) := by decide +kernel
theorem d_Lw_law_239 : decode b_Lw_law 239 = .ok (.ireturn, 1) := by decide +kernel
theorem d_Lw_law_240 : decode b_Lw_law 240 = .ok (.iload 5, 2) := by decide +kernel
theorem d_Lw_law_242 : decode b_Lw_law 242 = .ok (.ifCond .ne 15, 3) := by decide +kernel
theorem d_Lw_law_245 : decode b_Lw_law 245 = .ok (.aload_n 3, 1) := by decide +kernel
theorem d_Lw_law_246 : decode b_Lw_law 246 = .ok (.iconst 0, 1) := by decide +kernel
theorem d_Lw_law_247 : decode b_Lw_law 247 = .ok (.laload, 1) := by decide +kernel
theorem d_Lw_law_248 : decode b_Lw_law 248 = .ok (.iload 6, 2) := by decide +kernel
theorem d_Lw_law_250 : decode b_Lw_law 250 = .ok (.i2l, 1) := by decide +kernel
theorem d_Lw_law_251 : decode b_Lw_law 251 = .ok (.lcmp, 1) := by decide +kernel
theorem d_Lw_law_252 : decode b_Lw_law 252 = .ok (.ifCond .eq 5, 3) := by decide +kernel
theorem d_Lw_law_255 : decode b_Lw_law 255 = .ok (.iconst 0, 1) := by decide +kernel
theorem d_Lw_law_256 : decode b_Lw_law 256 = .ok (.ireturn, 1) := by decide +kernel
theorem d_Lw_law_257 : decode b_Lw_law 257 = .ok (.goto 516, 3) := by decide +kernel
theorem d_Lw_law_260 : decode b_Lw_law 260 = .ok (.aload_n 1, 1) := by decide +kernel
theorem d_Lw_law_261 : decode b_Lw_law 261 = .ok (.aload_n 0, 1) := by decide +kernel
theorem d_Lw_law_262 : decode b_Lw_law 262 = .ok (.iload 4, 2) := by decide +kernel
theorem d_Lw_law_264 : decode b_Lw_law 264 = .ok (.iconst 1, 1) := by decide +kernel
theorem d_Lw_law_265 : decode b_Lw_law 265 = .ok (.iadd, 1) := by decide +kernel
theorem d_Lw_law_266 : decode b_Lw_law 266 = .ok (.iaload, 1) := by decide +kernel
theorem d_Lw_law_267 : decode b_Lw_law 267 = .ok (.aload_n 3, 1) := by decide +kernel
theorem d_Lw_law_268 : decode b_Lw_law 268 = .ok (.invokestatic 70, 3) := by decide +kernel
theorem d_Lw_law_271 : decode b_Lw_law 271 = .ok (.istore 5, 2) := by decide +kernel
theorem d_Lw_law_273 : decode b_Lw_law 273 = .ok (.aload_n 2, 1) := by decide +kernel
theorem d_Lw_law_274 : decode b_Lw_law 274 = .ok (.aload_n 0, 1) := by decide +kernel
theorem d_Lw_law_275 : decode b_Lw_law 275 = .ok (.iload 4, 2) := by decide +kernel
theorem d_Lw_law_277 : decode b_Lw_law 277 = .ok (.iconst 1, 1) := by decide +kernel
theorem d_Lw_law_278 : decode b_Lw_law 278 = .ok (.iadd, 1) := by decide +kernel
theorem d_Lw_law_279 : decode b_Lw_law 279 = .ok (.iaload, 1) := by decide +kernel
theorem d_Lw_law_280 : decode b_Lw_law 280 = .ok (.invokevirtual 72, 3) := by decide +kernel
theorem d_Lw_law_283 : decode b_Lw_law 283 = .ok (.istore 6, 2) := by decide +kernel
theorem d_Lw_law_285 : decode b_Lw_law 285 = .ok (.aload_n 2, 1) := by decide +kernel
theorem d_Lw_law_286 : decode b_Lw_law 286 = .ok (.invokevirtual 63, 3) := by decide +kernel
theorem d_Lw_law_289 : decode b_Lw_law 289 = .ok (.iload 5, 2) := by decide +kernel
theorem d_Lw_law_291 : decode b_Lw_law 291 = .ok (.if_icmp .eq 5, 3) := by decide +kernel
theorem d_Lw_law_294 : decode b_Lw_law 294 = .ok (.iconst 0, 1) := by decide +kernel
theorem d_Lw_law_295 : decode b_Lw_law 295 = .ok (.ireturn, 1) := by decide +kernel
theorem d_Lw_law_296 : decode b_Lw_law 296 = .ok (.iload 5, 2) := by decide +kernel
theorem d_Lw_law_298 : decode b_Lw_law 298 = .ok (.ifCond .ne 15, 3) := by decide +kernel
theorem d_Lw_law_301 : decode b_Lw_law 301 = .ok (.aload_n 3, 1) := by decide +kernel
theorem d_Lw_law_302 : decode b_Lw_law 302 = .ok (.iconst 0, 1) := by decide +kernel
theorem d_Lw_law_303 : decode b_Lw_law 303 = .ok (.laload, 1) := by decide +kernel
theorem d_Lw_law_304 : decode b_Lw_law 304 = .ok (.iload 6, 2) := by decide +kernel
theorem d_Lw_law_306 : decode b_Lw_law 306 = .ok (.i2l, 1) := by decide +kernel
theorem d_Lw_law_307 : decode b_Lw_law 307 = .ok (.lcmp, 1) := by decide +kernel
theorem d_Lw_law_308 : decode b_Lw_law 308 = .ok (.ifCond .eq 5, 3) := by decide +kernel
theorem d_Lw_law_311 : decode b_Lw_law 311 = .ok (.iconst 0, 1) := by decide +kernel
theorem d_Lw_law_312 : decode b_Lw_law 312 = .ok (.ireturn, 1) := by decide +kernel
theorem d_Lw_law_313 : decode b_Lw_law 313 = .ok (.goto 460, 3) := by decide +kernel
theorem d_Lw_law_316 : decode b_Lw_law 316 = .ok (.aload_n 1, 1) := by decide +kernel
theorem d_Lw_law_317 : decode b_Lw_law 317 = .ok (.aload_n 0, 1) := by decide +kernel
theorem d_Lw_law_318 : decode b_Lw_law 318 = .ok (.iload 4, 2) := by decide +kernel
theorem d_Lw_law_320 : decode b_Lw_law 320 = .ok (.iconst 1, 1) := by decide +kernel
theorem d_Lw_law_321 : decode b_Lw_law 321 = .ok (.iadd, 1) := by decide +kernel
theorem d_Lw_law_322 : decode b_Lw_law 322 = .ok (.iaload, 1) := by decide +kernel
theorem d_Lw_law_323 : decode b_Lw_law 323 = .ok (.aload_n 0, 1) := by decide +kernel
theorem d_Lw_law_324 : decode b_Lw_law 324 = .ok (.iload 4, 2) := by decide +kernel
theorem d_Lw_law_326 : decode b_Lw_law 326 = .ok (.iconst 2, 1) := by decide +kernel
theorem d_Lw_law_327 : decode b_Lw_law 327 = .ok (.iadd, 1) := by decide +kernel
theorem d_Lw_law_328 : decode b_Lw_law 328 = .ok (.iaload, 1) := by decide +kernel
theorem d_Lw_law_329 : decode b_Lw_law 329 = .ok (.aload_n 0, 1) := by decide +kernel
theorem d_Lw_law_330 : decode b_Lw_law 330 = .ok (.iload 4, 2) := by decide +kernel
theorem d_Lw_law_332 : decode b_Lw_law 332 = .ok (.iconst 3, 1) := by decide +kernel
theorem d_Lw_law_333 : decode b_Lw_law 333 = .ok (.iadd, 1) := by decide +kernel
theorem d_Lw_law_334 : decode b_Lw_law 334 = .ok (.iaload, 1) := by decide +kernel
theorem d_Lw_law_335 : decode b_Lw_law 335 = .ok (.aload_n 0, 1) := by decide +kernel
theorem d_Lw_law_336 : decode b_Lw_law 336 = .ok (.iload 4, 2) := by decide +kernel
theorem d_Lw_law_338 : decode b_Lw_law 338 = .ok (.iconst 4, 1) := by decide +kernel
theorem d_Lw_law_339 : decode b_Lw_law 339 = .ok (.iadd, 1) := by decide +kernel
theorem d_Lw_law_340 : decode b_Lw_law 340 = .ok (.iaload, 1) := by decide +kernel
theorem d_Lw_law_341 : decode b_Lw_law 341 = .ok (.aload_n 0, 1) := by decide +kernel
theorem d_Lw_law_342 : decode b_Lw_law 342 = .ok (.iload 4, 2) := by decide +kernel
theorem d_Lw_law_344 : decode b_Lw_law 344 = .ok (.iconst 5, 1) := by decide +kernel
theorem d_Lw_law_345 : decode b_Lw_law 345 = .ok (.iadd, 1) := by decide +kernel
theorem d_Lw_law_346 : decode b_Lw_law 346 = .ok (.iaload, 1) := by decide +kernel
theorem d_Lw_law_347 : decode b_Lw_law 347 = .ok (.invokevirtual 73, 3) := by decide +kernel
theorem d_Lw_law_350 : decode b_Lw_law 350 = .ok (.aload_n 2, 1) := by decide +kernel
theorem d_Lw_law_351 : decode b_Lw_law 351 = .ok (.aload_n 0, 1) := by decide +kernel
theorem d_Lw_law_352 : decode b_Lw_law 352 = .ok (.iload 4, 2) := by decide +kernel
theorem d_Lw_law_354 : decode b_Lw_law 354 = .ok (.iconst 1, 1) := by decide +kernel
theorem d_Lw_law_355 : decode b_Lw_law 355 = .ok (.iadd, 1) := by decide +kernel
theorem d_Lw_law_356 : decode b_Lw_law 356 = .ok (.iaload, 1) := by decide +kernel
theorem d_Lw_law_357 : decode b_Lw_law 357 = .ok (.aload_n 0, 1) := by decide +kernel
theorem d_Lw_law_358 : decode b_Lw_law 358 = .ok (.iload 4, 2) := by decide +kernel
theorem d_Lw_law_360 : decode b_Lw_law 360 = .ok (.iconst 2, 1) := by decide +kernel
theorem d_Lw_law_361 : decode b_Lw_law 361 = .ok (.iadd, 1) := by decide +kernel
theorem d_Lw_law_362 : decode b_Lw_law 362 = .ok (.iaload, 1) := by decide +kernel
theorem d_Lw_law_363 : decode b_Lw_law 363 = .ok (.aload_n 0, 1) := by decide +kernel
theorem d_Lw_law_364 : decode b_Lw_law 364 = .ok (.iload 4, 2) := by decide +kernel
theorem d_Lw_law_366 : decode b_Lw_law 366 = .ok (.iconst 3, 1) := by decide +kernel
theorem d_Lw_law_367 : decode b_Lw_law 367 = .ok (.iadd, 1) := by decide +kernel
theorem d_Lw_law_368 : decode b_Lw_law 368 = .ok (.iaload, 1) := by decide +kernel
theorem d_Lw_law_369 : decode b_Lw_law 369 = .ok (.aload_n 0, 1) := by decide +kernel
theorem d_Lw_law_370 : decode b_Lw_law 370 = .ok (.iload 4, 2) := by decide +kernel
theorem d_Lw_law_372 : decode b_Lw_law 372 = .ok (.iconst 4, 1) := by decide +kernel
theorem d_Lw_law_373 : decode b_Lw_law 373 = .ok (.iadd, 1) := by decide +kernel
theorem d_Lw_law_374 : decode b_Lw_law 374 = .ok (.iaload, 1) := by decide +kernel
theorem d_Lw_law_375 : decode b_Lw_law 375 = .ok (.aload_n 0, 1) := by decide +kernel
theorem d_Lw_law_376 : decode b_Lw_law 376 = .ok (.iload 4, 2) := by decide +kernel
theorem d_Lw_law_378 : decode b_Lw_law 378 = .ok (.iconst 5, 1) := by decide +kernel
theorem d_Lw_law_379 : decode b_Lw_law 379 = .ok (.iadd, 1) := by decide +kernel
theorem d_Lw_law_380 : decode b_Lw_law 380 = .ok (.iaload, 1) := by decide +kernel
theorem d_Lw_law_381 : decode b_Lw_law 381 = .ok (.invokevirtual 77, 3) := by decide +kernel
theorem d_Lw_law_384 : decode b_Lw_law 384 = .ok (.if_icmp .eq 389, 3) := by decide +kernel
theorem d_Lw_law_387 : decode b_Lw_law 387 = .ok (.iconst 0, 1) := by decide +kernel
theorem d_Lw_law_388 : decode b_Lw_law 388 = .ok (.ireturn, 1) := by decide +kernel
theorem d_Lw_law_389 : decode b_Lw_law 389 = .ok (.aload_n 1, 1) := by decide +kernel
theorem d_Lw_law_390 : decode b_Lw_law 390 = .ok (.aload_n 3, 1) := by decide +kernel
theorem d_Lw_law_391 : decode b_Lw_law 391 = .ok (.invokestatic 78, 3) := by decide +kernel
theorem d_Lw_law_394 : decode b_Lw_law 394 = .ok (.istore 5, 2) := by decide +kernel
theorem d_Lw_law_396 : decode b_Lw_law 396 = .ok (.aload_n 2, 1) := by decide +kernel
theorem d_Lw_law_397 : decode b_Lw_law 397 = .ok (.invokevirtual 81, 3) := by decide +kernel
theorem d_Lw_law_400 : decode b_Lw_law 400 = .ok (.istore 6, 2) := by decide +kernel
theorem d_Lw_law_402 : decode b_Lw_law 402 = .ok (.aload_n 2, 1) := by decide +kernel
theorem d_Lw_law_403 : decode b_Lw_law 403 = .ok (.invokevirtual 63, 3) := by decide +kernel
theorem d_Lw_law_406 : decode b_Lw_law 406 = .ok (.iload 5, 2) := by decide +kernel
theorem d_Lw_law_408 : decode b_Lw_law 408 = .ok (.if_icmp .eq 5, 3) := by decide +kernel
theorem d_Lw_law_411 : decode b_Lw_law 411 = .ok (.iconst 0, 1) := by decide +kernel
theorem d_Lw_law_412 : decode b_Lw_law 412 = .ok (.ireturn, 1) := by decide +kernel
theorem d_Lw_law_413 : decode b_Lw_law 413 = .ok (.iload 5, 2) := by decide +kernel
theorem d_Lw_law_415 : decode b_Lw_law 415 = .ok (.ifCond .ne 15, 3) := by decide +kernel
theorem d_Lw_law_418 : decode b_Lw_law 418 = .ok (.aload_n 3, 1) := by decide +kernel
theorem d_Lw_law_419 : decode b_Lw_law 419 = .ok (.iconst 0, 1) := by decide +kernel
theorem d_Lw_law_420 : decode b_Lw_law 420 = .ok (.laload, 1) := by decide +kernel
theorem d_Lw_law_421 : decode b_Lw_law 421 = .ok (.iload 6, 2) := by decide +kernel
theorem d_Lw_law_423 : decode b_Lw_law 423 = .ok (.i2l, 1) := by decide +kernel
theorem d_Lw_law_424 : decode b_Lw_law 424 = .ok (.lcmp, 1) := by decide +kernel
theorem d_Lw_law_425 : decode b_Lw_law 425 = .ok (.ifCond .eq 5, 3) := by decide +kernel
theorem d_Lw_law_428 : decode b_Lw_law 428 = .ok (.iconst 0, 1) := by decide +kernel
theorem d_Lw_law_429 : decode b_Lw_law 429 = .ok (.ireturn, 1) := by decide +kernel
theorem d_Lw_law_430 : decode b_Lw_law 430 = .ok (.goto 343, 3) := by decide +kernel
theorem d_Lw_law_433 : decode b_Lw_law 433 = .ok (.aload_n 1, 1) := by decide +kernel
theorem d_Lw_law_434 : decode b_Lw_law 434 = .ok (.invokevirtual 82, 3) := by decide +kernel
theorem d_Lw_law_437 : decode b_Lw_law 437 = .ok (.aload_n 2, 1) := by decide +kernel
theorem d_Lw_law_438 : decode b_Lw_law 438 = .ok (.invokevirtual 85, 3) := by decide +kernel
theorem d_Lw_law_441 : decode b_Lw_law 441 = .ok (.if_icmp .eq 332, 3) := by decide +kernel
theorem d_Lw_law_444 : decode b_Lw_law 444 = .ok (.iconst 0, 1) := by decide +kernel
theorem d_Lw_law_445 : decode b_Lw_law 445 = .ok (.ireturn, 1) := by decide +kernel
theorem d_Lw_law_446 : decode b_Lw_law 446 = .ok (.aload_n 1, 1) := by decide +kernel
theorem d_Lw_law_447 : decode b_Lw_law 447 = .ok (.aload_n 0, 1) := by decide +kernel
theorem d_Lw_law_448 : decode b_Lw_law 448 = .ok (.iload 4, 2) := by decide +kernel
theorem d_Lw_law_450 : decode b_Lw_law 450 = .ok (.iconst 1, 1) := by decide +kernel
theorem d_Lw_law_451 : decode b_Lw_law 451 = .ok (.iadd, 1) := by decide +kernel
theorem d_Lw_law_452 : decode b_Lw_law 452 = .ok (.iaload, 1) := by decide +kernel
theorem d_Lw_law_453 : decode b_Lw_law 453 = .ok (.aload_n 0, 1) := by decide +kernel
theorem d_Lw_law_454 : decode b_Lw_law 454 = .ok (.iload 4, 2) := by decide +kernel
theorem d_Lw_law_456 : decode b_Lw_law 456 = .ok (.iconst 2, 1) := by decide +kernel
theorem d_Lw_law_457 : decode b_Lw_law 457 = .ok (.iadd, 1) := by decide +kernel
theorem d_Lw_law_458 : decode b_Lw_law 458 = .ok (.iaload, 1) := by decide +kernel
theorem d_Lw_law_459 : decode b_Lw_law 459 = .ok (.aload_n 3, 1) := by decide +kernel
theorem d_Lw_law_460 : decode b_Lw_law 460 = .ok (.invokestatic 86, 3) := by decide +kernel
theorem d_Lw_law_463 : decode b_Lw_law 463 = .ok (.istore 5, 2) := by decide +kernel
theorem d_Lw_law_465 : decode b_Lw_law 465 = .ok (.aload_n 2, 1) := by decide +kernel
theorem d_Lw_law_466 : decode b_Lw_law 466 = .ok (.aload_n 0, 1) := by decide +kernel
theorem d_Lw_law_467 : decode b_Lw_law 467 = .ok (.iload 4, 2) := by decide +kernel
theorem d_Lw_law_469 : decode b_Lw_law 469 = .ok (.iconst 1, 1) := by decide +kernel
theorem d_Lw_law_470 : decode b_Lw_law 470 = .ok (.iadd, 1) := by decide +kernel
theorem d_Lw_law_471 : decode b_Lw_law 471 = .ok (.iaload, 1) := by decide +kernel
theorem d_Lw_law_472 : decode b_Lw_law 472 = .ok (.aload_n 0, 1) := by decide +kernel
theorem d_Lw_law_473 : decode b_Lw_law 473 = .ok (.iload 4, 2) := by decide +kernel
theorem d_Lw_law_475 : decode b_Lw_law 475 = .ok (.iconst 2, 1) := by decide +kernel
theorem d_Lw_law_476 : decode b_Lw_law 476 = .ok (.iadd, 1) := by decide +kernel
theorem d_Lw_law_477 : decode b_Lw_law 477 = .ok (.iaload, 1) := by decide +kernel
theorem d_Lw_law_478 : decode b_Lw_law 478 = .ok (.invokevirtual 89, 3) := by decide +kernel
theorem d_Lw_law_481 : decode b_Lw_law 481 = .ok (.istore 6, 2) := by decide +kernel
theorem d_Lw_law_483 : decode b_Lw_law 483 = .ok (.aload_n 2, 1) := by decide +kernel
theorem d_Lw_law_484 : decode b_Lw_law 484 = .ok (.invokevirtual 63, 3) := by decide +kernel
theorem d_Lw_law_487 : decode b_Lw_law 487 = .ok (.iload 5, 2) := by decide +kernel
theorem d_Lw_law_489 : decode b_Lw_law 489 = .ok (.if_icmp .eq 5, 3) := by decide +kernel
theorem d_Lw_law_492 : decode b_Lw_law 492 = .ok (.iconst 0, 1) := by decide +kernel
theorem d_Lw_law_493 : decode b_Lw_law 493 = .ok (.ireturn, 1) := by decide +kernel
theorem d_Lw_law_494 : decode b_Lw_law 494 = .ok (.iload 5, 2) := by decide +kernel
theorem d_Lw_law_496 : decode b_Lw_law 496 = .ok (.ifCond .ne 15, 3) := by decide +kernel
theorem d_Lw_law_499 : decode b_Lw_law 499 = .ok (.aload_n 3, 1) := by decide +kernel
theorem d_Lw_law_500 : decode b_Lw_law 500 = .ok (.iconst 0, 1) := by decide +kernel
theorem d_Lw_law_501 : decode b_Lw_law 501 = .ok (.laload, 1) := by decide +kernel
theorem d_Lw_law_502 : decode b_Lw_law 502 = .ok (.iload 6, 2) := by decide +kernel
theorem d_Lw_law_504 : decode b_Lw_law 504 = .ok (.i2l, 1) := by decide +kernel
theorem d_Lw_law_505 : decode b_Lw_law 505 = .ok (.lcmp, 1) := by decide +kernel
theorem d_Lw_law_506 : decode b_Lw_law 506 = .ok (.ifCond .eq 5, 3) := by decide +kernel
theorem d_Lw_law_509 : decode b_Lw_law 509 = .ok (.iconst 0, 1) := by decide +kernel
theorem d_Lw_law_510 : decode b_Lw_law 510 = .ok (.ireturn, 1) := by decide +kernel
theorem d_Lw_law_511 : decode b_Lw_law 511 = .ok (.goto 262, 3) := by decide +kernel
theorem d_Lw_law_514 : decode b_Lw_law 514 = .ok (.aload_n 1, 1) := by decide +kernel
theorem d_Lw_law_515 : decode b_Lw_law 515 = .ok (.aload_n 0, 1) := by decide +kernel
theorem d_Lw_law_516 : decode b_Lw_law 516 = .ok (.iload 4, 2) := by decide +kernel
theorem d_Lw_law_518 : decode b_Lw_law 518 = .ok (.iconst 1, 1) := by decide +kernel
theorem d_Lw_law_519 : decode b_Lw_law 519 = .ok (.iadd, 1) := by decide +kernel
theorem d_Lw_law_520 : decode b_Lw_law 520 = .ok (.iaload, 1) := by decide +kernel
theorem d_Lw_law_521 : decode b_Lw_law 521 = .ok (.aload_n 0, 1) := by decide +kernel
theorem d_Lw_law_522 : decode b_Lw_law 522 = .ok (.iload 4, 2) := by decide +kernel
theorem d_Lw_law_524 : decode b_Lw_law 524 = .ok (.iconst 2, 1) := by decide +kernel
theorem d_Lw_law_525 : decode b_Lw_law 525 = .ok (.iadd, 1) := by decide +kernel
theorem d_Lw_law_526 : decode b_Lw_law 526 = .ok (.iaload, 1) := by decide +kernel
theorem d_Lw_law_527 : decode b_Lw_law 527 = .ok (.aload_n 3, 1) := by decide +kernel
theorem d_Lw_law_528 : decode b_Lw_law 528 = .ok (.invokestatic 90, 3) := by decide +kernel
theorem d_Lw_law_531 : decode b_Lw_law 531 = .ok (.istore 5, 2) := by decide +kernel
theorem d_Lw_law_533 : decode b_Lw_law 533 = .ok (.aload_n 2, 1) := by decide +kernel
theorem d_Lw_law_534 : decode b_Lw_law 534 = .ok (.aload_n 0, 1) := by decide +kernel
theorem d_Lw_law_535 : decode b_Lw_law 535 = .ok (.iload 4, 2) := by decide +kernel
theorem d_Lw_law_537 : decode b_Lw_law 537 = .ok (.iconst 1, 1) := by decide +kernel
theorem d_Lw_law_538 : decode b_Lw_law 538 = .ok (.iadd, 1) := by decide +kernel
theorem d_Lw_law_539 : decode b_Lw_law 539 = .ok (.iaload, 1) := by decide +kernel
theorem d_Lw_law_540 : decode b_Lw_law 540 = .ok (.aload_n 0, 1) := by decide +kernel
theorem d_Lw_law_541 : decode b_Lw_law 541 = .ok (.iload 4, 2) := by decide +kernel
theorem d_Lw_law_543 : decode b_Lw_law 543 = .ok (.iconst 2, 1) := by decide +kernel
theorem d_Lw_law_544 : decode b_Lw_law 544 = .ok (.iadd, 1) := by decide +kernel
theorem d_Lw_law_545 : decode b_Lw_law 545 = .ok (.iaload, 1) := by decide +kernel
theorem d_Lw_law_546 : decode b_Lw_law 546 = .ok (.invokevirtual 92, 3) := by decide +kernel
theorem d_Lw_law_549 : decode b_Lw_law 549 = .ok (.istore 6, 2) := by decide +kernel
theorem d_Lw_law_551 : decode b_Lw_law 551 = .ok (.aload_n 2, 1) := by decide +kernel
theorem d_Lw_law_552 : decode b_Lw_law 552 = .ok (.invokevirtual 63, 3) := by decide +kernel
theorem d_Lw_law_555 : decode b_Lw_law 555 = .ok (.iload 5, 2) := by decide +kernel
theorem d_Lw_law_557 : decode b_Lw_law 557 = .ok (.if_icmp .eq 5, 3) := by decide +kernel
theorem d_Lw_law_560 : decode b_Lw_law 560 = .ok (.iconst 0, 1) := by decide +kernel
theorem d_Lw_law_561 : decode b_Lw_law 561 = .ok (.ireturn, 1) := by decide +kernel
theorem d_Lw_law_562 : decode b_Lw_law 562 = .ok (.iload 5, 2) := by decide +kernel
theorem d_Lw_law_564 : decode b_Lw_law 564 = .ok (.ifCond .ne 15, 3) := by decide +kernel
theorem d_Lw_law_567 : decode b_Lw_law 567 = .ok (.aload_n 3, 1) := by decide +kernel
theorem d_Lw_law_568 : decode b_Lw_law 568 = .ok (.iconst 0, 1) := by decide +kernel
theorem d_Lw_law_569 : decode b_Lw_law 569 = .ok (.laload, 1) := by decide +kernel
theorem d_Lw_law_570 : decode b_Lw_law 570 = .ok (.iload 6, 2) := by decide +kernel
theorem d_Lw_law_572 : decode b_Lw_law 572 = .ok (.i2l, 1) := by decide +kernel
theorem d_Lw_law_573 : decode b_Lw_law 573 = .ok (.lcmp, 1) := by decide +kernel
theorem d_Lw_law_574 : decode b_Lw_law 574 = .ok (.ifCond .eq 5, 3) := by decide +kernel
theorem d_Lw_law_577 : decode b_Lw_law 577 = .ok (.iconst 0, 1) := by decide +kernel
theorem d_Lw_law_578 : decode b_Lw_law 578 = .ok (.ireturn, 1) := by decide +kernel
theorem d_Lw_law_579 : decode b_Lw_law 579 = .ok (.goto 194, 3) := by decide +kernel
theorem d_Lw_law_582 : decode b_Lw_law 582 = .ok (.aload_n 1, 1) := by decide +kernel
theorem d_Lw_law_583 : decode b_Lw_law 583 = .ok (.aload_n 0, 1) := by decide +kernel
theorem d_Lw_law_584 : decode b_Lw_law 584 = .ok (.iload 4, 2) := by decide +kernel
theorem d_Lw_law_586 : decode b_Lw_law 586 = .ok (.iconst 1, 1) := by decide +kernel
theorem d_Lw_law_587 : decode b_Lw_law 587 = .ok (.iadd, 1) := by decide +kernel
theorem d_Lw_law_588 : decode b_Lw_law 588 = .ok (.iaload, 1) := by decide +kernel
theorem d_Lw_law_589 : decode b_Lw_law 589 = .ok (.aload_n 0, 1) := by decide +kernel
theorem d_Lw_law_590 : decode b_Lw_law 590 = .ok (.iload 4, 2) := by decide +kernel
theorem d_Lw_law_592 : decode b_Lw_law 592 = .ok (.iconst 2, 1) := by decide +kernel
theorem d_Lw_law_593 : decode b_Lw_law 593 = .ok (.iadd, 1) := by decide +kernel
theorem d_Lw_law_594 : decode b_Lw_law 594 = .ok (.iaload, 1) := by decide +kernel
theorem d_Lw_law_595 : decode b_Lw_law 595 = .ok (.aload_n 3, 1) := by decide +kernel
theorem d_Lw_law_596 : decode b_Lw_law 596 = .ok (.invokestatic 93, 3) := by decide +kernel
theorem d_Lw_law_599 : decode b_Lw_law 599 = .ok (.istore 5, 2) := by decide +kernel
theorem d_Lw_law_601 : decode b_Lw_law 601 = .ok (.aload_n 2, 1) := by decide +kernel
theorem d_Lw_law_602 : decode b_Lw_law 602 = .ok (.aload_n 0, 1) := by decide +kernel
theorem d_Lw_law_603 : decode b_Lw_law 603 = .ok (.iload 4, 2) := by decide +kernel
theorem d_Lw_law_605 : decode b_Lw_law 605 = .ok (.iconst 1, 1) := by decide +kernel
theorem d_Lw_law_606 : decode b_Lw_law 606 = .ok (.iadd, 1) := by decide +kernel
theorem d_Lw_law_607 : decode b_Lw_law 607 = .ok (.iaload, 1) := by decide +kernel
theorem d_Lw_law_608 : decode b_Lw_law 608 = .ok (.aload_n 0, 1) := by decide +kernel
theorem d_Lw_law_609 : decode b_Lw_law 609 = .ok (.iload 4, 2) := by decide +kernel
theorem d_Lw_law_611 : decode b_Lw_law 611 = .ok (.iconst 2, 1) := by decide +kernel
theorem d_Lw_law_612 : decode b_Lw_law 612 = .ok (.iadd, 1) := by decide +kernel
theorem d_Lw_law_613 : decode b_Lw_law 613 = .ok (.iaload, 1) := by decide +kernel
theorem d_Lw_law_614 : decode b_Lw_law 614 = .ok (.invokevirtual 95, 3) := by decide +kernel
theorem d_Lw_law_617 : decode b_Lw_law 617 = .ok (.lstore 6, 2) := by decide +kernel
theorem d_Lw_law_619 : decode b_Lw_law 619 = .ok (.aload_n 2, 1) := by decide +kernel
theorem d_Lw_law_620 : decode b_Lw_law 620 = .ok (.invokevirtual 63, 3) := by decide +kernel
theorem d_Lw_law_623 : decode b_Lw_law 623 = .ok (.iload 5, 2) := by decide +kernel
theorem d_Lw_law_625 : decode b_Lw_law 625 = .ok (.if_icmp .eq 5, 3) := by decide +kernel
theorem d_Lw_law_628 : decode b_Lw_law 628 = .ok (.iconst 0, 1) := by decide +kernel
theorem d_Lw_law_629 : decode b_Lw_law 629 = .ok (.ireturn, 1) := by decide +kernel
theorem d_Lw_law_630 : decode b_Lw_law 630 = .ok (.iload 5, 2) := by decide +kernel
theorem d_Lw_law_632 : decode b_Lw_law 632 = .ok (.ifCond .ne 14, 3) := by decide +kernel
theorem d_Lw_law_635 : decode b_Lw_law 635 = .ok (.aload_n 3, 1) := by decide +kernel
theorem d_Lw_law_636 : decode b_Lw_law 636 = .ok (.iconst 0, 1) := by decide +kernel
theorem d_Lw_law_637 : decode b_Lw_law 637 = .ok (.laload, 1) := by decide +kernel
theorem d_Lw_law_638 : decode b_Lw_law 638 = .ok (.lload 6, 2) := by decide +kernel
theorem d_Lw_law_640 : decode b_Lw_law 640 = .ok (.lcmp, 1) := by decide +kernel
theorem d_Lw_law_641 : decode b_Lw_law 641 = .ok (.ifCond .eq 5, 3) := by decide +kernel
theorem d_Lw_law_644 : decode b_Lw_law 644 = .ok (.iconst 0, 1) := by decide +kernel
theorem d_Lw_law_645 : decode b_Lw_law 645 = .ok (.ireturn, 1) := by decide +kernel
theorem d_Lw_law_646 : decode b_Lw_law 646 = .ok (.goto 127, 3) := by decide +kernel
theorem d_Lw_law_649 : decode b_Lw_law 649 = .ok (.aload_n 1, 1) := by decide +kernel
theorem d_Lw_law_650 : decode b_Lw_law 650 = .ok (.aload_n 0, 1) := by decide +kernel
theorem d_Lw_law_651 : decode b_Lw_law 651 = .ok (.iload 4, 2) := by decide +kernel
theorem d_Lw_law_653 : decode b_Lw_law 653 = .ok (.iconst 1, 1) := by decide +kernel
theorem d_Lw_law_654 : decode b_Lw_law 654 = .ok (.iadd, 1) := by decide +kernel
theorem d_Lw_law_655 : decode b_Lw_law 655 = .ok (.iaload, 1) := by decide +kernel
theorem d_Lw_law_656 : decode b_Lw_law 656 = .ok (.aload_n 3, 1) := by decide +kernel
theorem d_Lw_law_657 : decode b_Lw_law 657 = .ok (.invokestatic 96, 3) := by decide +kernel
theorem d_Lw_law_660 : decode b_Lw_law 660 = .ok (.istore 5, 2) := by decide +kernel
theorem d_Lw_law_662 : decode b_Lw_law 662 = .ok (.aload_n 2, 1) := by decide +kernel
theorem d_Lw_law_663 : decode b_Lw_law 663 = .ok (.aload_n 0, 1) := by decide +kernel
theorem d_Lw_law_664 : decode b_Lw_law 664 = .ok (.iload 4, 2) := by decide +kernel
theorem d_Lw_law_666 : decode b_Lw_law 666 = .ok (.iconst 1, 1) := by decide +kernel
theorem d_Lw_law_667 : decode b_Lw_law 667 = .ok (.iadd, 1) := by decide +kernel
theorem d_Lw_law_668 : decode b_Lw_law 668 = .ok (.iaload, 1) := by decide +kernel
theorem d_Lw_law_669 : decode b_Lw_law 669 = .ok (.invokevirtual 98, 3) := by decide +kernel
theorem d_Lw_law_672 : decode b_Lw_law 672 = .ok (.istore 6, 2) := by decide +kernel
theorem d_Lw_law_674 : decode b_Lw_law 674 = .ok (.aload_n 2, 1) := by decide +kernel
theorem d_Lw_law_675 : decode b_Lw_law 675 = .ok (.invokevirtual 63, 3) := by decide +kernel
theorem d_Lw_law_678 : decode b_Lw_law 678 = .ok (.iload 5, 2) := by decide +kernel
theorem d_Lw_law_680 : decode b_Lw_law 680 = .ok (.if_icmp .eq 5, 3) := by decide +kernel
theorem d_Lw_law_683 : decode b_Lw_law 683 = .ok (.iconst 0, 1) := by decide +kernel
theorem d_Lw_law_684 : decode b_Lw_law 684 = .ok (.ireturn, 1) := by decide +kernel
theorem d_Lw_law_685 : decode b_Lw_law 685 = .ok (.iload 5, 2) := by decide +kernel
theorem d_Lw_law_687 : decode b_Lw_law 687 = .ok (.ifCond .ne 15, 3) := by decide +kernel
theorem d_Lw_law_690 : decode b_Lw_law 690 = .ok (.aload_n 3, 1) := by decide +kernel
theorem d_Lw_law_691 : decode b_Lw_law 691 = .ok (.iconst 0, 1) := by decide +kernel
theorem d_Lw_law_692 : decode b_Lw_law 692 = .ok (.laload, 1) := by decide +kernel
theorem d_Lw_law_693 : decode b_Lw_law 693 = .ok (.iload 6, 2) := by decide +kernel
theorem d_Lw_law_695 : decode b_Lw_law 695 = .ok (.i2l, 1) := by decide +kernel
theorem d_Lw_law_696 : decode b_Lw_law 696 = .ok (.lcmp, 1) := by decide +kernel
theorem d_Lw_law_697 : decode b_Lw_law 697 = .ok (.ifCond .eq 5, 3) := by decide +kernel
theorem d_Lw_law_700 : decode b_Lw_law 700 = .ok (.iconst 0, 1) := by decide +kernel
theorem d_Lw_law_701 : decode b_Lw_law 701 = .ok (.ireturn, 1) := by decide +kernel
theorem d_Lw_law_702 : decode b_Lw_law 702 = .ok (.goto 71, 3) := by decide +kernel
theorem d_Lw_law_705 : decode b_Lw_law 705 = .ok (.aload_n 1, 1) := by decide +kernel
theorem d_Lw_law_706 : decode b_Lw_law 706 = .ok (.aload_n 0, 1) := by decide +kernel
theorem d_Lw_law_707 : decode b_Lw_law 707 = .ok (.iload 4, 2) := by decide +kernel
theorem d_Lw_law_709 : decode b_Lw_law 709 = .ok (.iconst 1, 1) := by decide +kernel
theorem d_Lw_law_710 : decode b_Lw_law 710 = .ok (.iadd, 1) := by decide +kernel
theorem d_Lw_law_711 : decode b_Lw_law 711 = .ok (.iaload, 1) := by decide +kernel
theorem d_Lw_law_712 : decode b_Lw_law 712 = .ok (.aload_n 0, 1) := by decide +kernel
theorem d_Lw_law_713 : decode b_Lw_law 713 = .ok (.iload 4, 2) := by decide +kernel
theorem d_Lw_law_715 : decode b_Lw_law 715 = .ok (.iconst 2, 1) := by decide +kernel
theorem d_Lw_law_716 : decode b_Lw_law 716 = .ok (.iadd, 1) := by decide +kernel
theorem d_Lw_law_717 : decode b_Lw_law 717 = .ok (.iaload, 1) := by decide +kernel
theorem d_Lw_law_718 : decode b_Lw_law 718 = .ok (.aload_n 3, 1) := by decide +kernel
theorem d_Lw_law_719 : decode b_Lw_law 719 = .ok (.invokestatic 99, 3) := by decide +kernel
theorem d_Lw_law_722 : decode b_Lw_law 722 = .ok (.istore 5, 2) := by decide +kernel
theorem d_Lw_law_724 : decode b_Lw_law 724 = .ok (.aload_n 2, 1) := by decide +kernel
theorem d_Lw_law_725 : decode b_Lw_law 725 = .ok (.aload_n 0, 1) := by decide +kernel
theorem d_Lw_law_726 : decode b_Lw_law 726 = .ok (.iload 4, 2) := by decide +kernel
theorem d_Lw_law_728 : decode b_Lw_law 728 = .ok (.iconst 1, 1) := by decide +kernel
theorem d_Lw_law_729 : decode b_Lw_law 729 = .ok (.iadd, 1) := by decide +kernel
theorem d_Lw_law_730 : decode b_Lw_law 730 = .ok (.iaload, 1) := by decide +kernel
theorem d_Lw_law_731 : decode b_Lw_law 731 = .ok (.aload_n 0, 1) := by decide +kernel
theorem d_Lw_law_732 : decode b_Lw_law 732 = .ok (.iload 4, 2) := by decide +kernel
theorem d_Lw_law_734 : decode b_Lw_law 734 = .ok (.iconst 2, 1) := by decide +kernel
theorem d_Lw_law_735 : decode b_Lw_law 735 = .ok (.iadd, 1) := by decide +kernel
theorem d_Lw_law_736 : decode b_Lw_law 736 = .ok (.iaload, 1) := by decide +kernel
theorem d_Lw_law_737 : decode b_Lw_law 737 = .ok (.invokevirtual 101, 3) := by decide +kernel
theorem d_Lw_law_740 : decode b_Lw_law 740 = .ok (.istore 6, 2) := by decide +kernel
theorem d_Lw_law_742 : decode b_Lw_law 742 = .ok (.aload_n 2, 1) := by decide +kernel
theorem d_Lw_law_743 : decode b_Lw_law 743 = .ok (.invokevirtual 63, 3) := by decide +kernel
theorem d_Lw_law_746 : decode b_Lw_law 746 = .ok (.iload 5, 2) := by decide +kernel
theorem d_Lw_law_748 : decode b_Lw_law 748 = .ok (.if_icmp .eq 5, 3) := by decide +kernel
theorem d_Lw_law_751 : decode b_Lw_law 751 = .ok (.iconst 0, 1) := by decide +kernel
theorem d_Lw_law_752 : decode b_Lw_law 752 = .ok (.ireturn, 1) := by decide +kernel
theorem d_Lw_law_753 : decode b_Lw_law 753 = .ok (.iload 5, 2) := by decide +kernel
theorem d_Lw_law_755 : decode b_Lw_law 755 = .ok (.ifCond .ne 15, 3) := by decide +kernel
theorem d_Lw_law_758 : decode b_Lw_law 758 = .ok (.aload_n 3, 1) := by decide +kernel
theorem d_Lw_law_759 : decode b_Lw_law 759 = .ok (.iconst 0, 1) := by decide +kernel
theorem d_Lw_law_760 : decode b_Lw_law 760 = .ok (.laload, 1) := by decide +kernel
theorem d_Lw_law_761 : decode b_Lw_law 761 = .ok (.iload 6, 2) := by decide +kernel
theorem d_Lw_law_763 : decode b_Lw_law 763 = .ok (.i2l, 1) := by decide +kernel
theorem d_Lw_law_764 : decode b_Lw_law 764 = .ok (.lcmp, 1) := by decide +kernel
theorem d_Lw_law_765 : decode b_Lw_law 765 = .ok (.ifCond .eq 5, 3) := by decide +kernel
theorem d_Lw_law_768 : decode b_Lw_law 768 = .ok (.iconst 0, 1) := by decide +kernel
theorem d_Lw_law_769 : decode b_Lw_law 769 = .ok (.ireturn, 1) := by decide +kernel
theorem d_Lw_law_770 : decode b_Lw_law 770 = .ok (.goto 3, 3) := by decide +kernel
theorem d_Lw_law_773 : decode b_Lw_law 773 = .ok (.iinc 4 6, 3) := by decide +kernel
theorem d_Lw_law_776 : decode b_Lw_law 776 = .ok (.goto (-753), 3) := by decide +kernel
theorem d_Lw_law_779 : decode b_Lw_law 779 = .ok (.iconst 1, 1) := by decide +kernel
theorem d_Lw_law_780 : decode b_Lw_law 780 = .ok (.ireturn, 1) := by decide +kernel
