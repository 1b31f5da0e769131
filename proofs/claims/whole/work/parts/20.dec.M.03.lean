theorem d_M_readOperand_20 : decode b_M_readOperand 20 = .ok (.iload_n 1, 1) := by decide +kernel
theorem d_M_readOperand_21 : decode b_M_readOperand 21 = .ok (.iastore, 1) := by decide +kernel
theorem d_M_readOperand_22 : decode b_M_readOperand 22 = .ok (.aload_n 0, 1) := by decide +kernel
theorem d_M_readOperand_23 : decode b_M_readOperand 23 = .ok (.getfield 123, 3) := by decide +kernel
theorem d_M_readOperand_26 : decode b_M_readOperand 26 = .ok (.iload_n 2, 1) := by decide +kernel
theorem d_M_readOperand_27 : decode b_M_readOperand 27 = .ok (.aload_n 0, 1) := by decide +kernel
theorem d_M_readOperand_28 : decode b_M_readOperand 28 = .ok (.getfield 307, 3) := by decide +kernel
theorem d_M_readOperand_31 : decode b_M_readOperand 31 = .ok (.iastore, 1) := by decide +kernel
theorem d_M_readOperand_32 : decode b_M_readOperand 32 = .ok (.aload_n 0, 1) := by decide +kernel
theorem d_M_readOperand_33 : decode b_M_readOperand 33 = .ok (.getfield 117, 3) := by decide +kernel
theorem d_M_readOperand_36 : decode b_M_readOperand 36 = .ok (.iload_n 2, 1) := by decide +kernel
theorem d_M_readOperand_37 : decode b_M_readOperand 37 = .ok (.aload_n 0, 1) := by decide +kernel
theorem d_M_readOperand_38 : decode b_M_readOperand 38 = .ok (.bipush 31, 2) := by decide +kernel
theorem d_M_readOperand_40 : decode b_M_readOperand 40 = .ok (.invokevirtual 310, 3) := by decide +kernel
theorem d_M_readOperand_43 : decode b_M_readOperand 43 = .ok (.ifCond .eq 7, 3) := by decide +kernel
theorem d_M_readOperand_46 : decode b_M_readOperand 46 = .ok (.iconst 0, 1) := by decide +kernel
theorem d_M_readOperand_47 : decode b_M_readOperand 47 = .ok (.goto 17, 3) := by decide +kernel
theorem d_M_readOperand_50 : decode b_M_readOperand 50 = .ok (.aload_n 0, 1) := by decide +kernel
theorem d_M_readOperand_51 : decode b_M_readOperand 51 = .ok (.bipush 11, 2) := by decide +kernel
theorem d_M_readOperand_53 : decode b_M_readOperand 53 = .ok (.invokevirtual 310, 3) := by decide +kernel
theorem d_M_readOperand_56 : decode b_M_readOperand 56 = .ok (.ifCond .eq 7, 3) := by decide +kernel
theorem d_M_readOperand_59 : decode b_M_readOperand 59 = .ok (.iconst 1, 1) := by decide +kernel
theorem d_M_readOperand_60 : decode b_M_readOperand 60 = .ok (.goto 4, 3) := by decide +kernel
theorem d_M_readOperand_63 : decode b_M_readOperand 63 = .ok (.iconst 2, 1) := by decide +kernel
theorem d_M_readOperand_64 : decode b_M_readOperand 64 = .ok (.iastore, 1) := by decide +kernel
theorem d_M_readOperand_65 : decode b_M_readOperand 65 = .ok (.aload_n 0, 1) := by decide +kernel
theorem d_M_readOperand_66 : decode b_M_readOperand 66 = .ok (.getfield 117, 3) := by decide +kernel
theorem d_M_readOperand_69 : decode b_M_readOperand 69 = .ok (.iload_n 2, 1) := by decide +kernel
theorem d_M_readOperand_70 : decode b_M_readOperand 70 = .ok (.iaload, 1) := by decide +kernel
theorem d_M_readOperand_71 : decode b_M_readOperand 71 = .ok (.iconst 2, 1) := by decide +kernel
theorem d_M_readOperand_72 : decode b_M_readOperand 72 = .ok (.if_icmp .ge 14, 3) := by decide +kernel
theorem d_M_readOperand_75 : decode b_M_readOperand 75 = .ok (.aload_n 0, 1) := by decide +kernel
theorem d_M_readOperand_76 : decode b_M_readOperand 76 = .ok (.dup, 1) := by decide +kernel
theorem d_M_readOperand_77 : decode b_M_readOperand 77 = .ok (.getfield 307, 3) := by decide +kernel
theorem d_M_readOperand_80 : decode b_M_readOperand 80 = .ok (.iconst 1, 1) := by decide +kernel
theorem d_M_readOperand_81 : decode b_M_readOperand 81 = .ok (.iadd, 1) := by decide +kernel
theorem d_M_readOperand_82 : decode b_M_readOperand 82 = .ok (.putfield 307, 3) := by decide +kernel
theorem d_M_readOperand_85 : decode b_M_readOperand 85 = .ok (.return_, 1) := by decide +kernel
theorem d_M_readOperand_86 : decode b_M_readOperand 86 = .ok (.aload_n 0, 1) := by decide +kernel
theorem d_M_readOperand_87 : decode b_M_readOperand 87 = .ok (.bipush 30, 2) := by decide +kernel
theorem d_M_readOperand_89 : decode b_M_readOperand 89 = .ok (.invokevirtual 317, 3) := by decide +kernel
theorem d_M_readOperand_92 : decode b_M_readOperand 92 = .ok (.pop, 1) := by decide +kernel
theorem d_M_readOperand_93 : decode b_M_readOperand 93 = .ok (.aload_n 0, 1) := by decide +kernel
theorem d_M_readOperand_94 : decode b_M_readOperand 94 = .ok (.bipush 46, 2) := by decide +kernel
theorem d_M_readOperand_96 : decode b_M_readOperand 96 = .ok (.invokevirtual 346, 3) := by decide +kernel
theorem d_M_readOperand_99 : decode b_M_readOperand 99 = .ok (.aload_n 0, 1) := by decide +kernel
theorem d_M_readOperand_100 : decode b_M_readOperand 100 = .ok (.bipush 30, 2) := by decide +kernel
theorem d_M_readOperand_102 : decode b_M_readOperand 102 = .ok (.invokevirtual 317, 3) := by decide +kernel
theorem d_M_readOperand_105 : decode b_M_readOperand 105 = .ok (.pop, 1) := by decide +kernel
theorem d_M_readOperand_106 : decode b_M_readOperand 106 = .ok (.return_, 1) := by decide +kernel
theorem d_M_readExpression_0 : decode b_M_readExpression 0 = .ok (.aload_n 0, 1) := by decide +kernel
theorem d_M_readExpression_1 : decode b_M_readExpression 1 = .ok (.getfield 380, 3) := by decide +kernel
theorem d_M_readExpression_4 : decode b_M_readExpression 4 = .ok (.istore_n 1, 1) := by decide +kernel
theorem d_M_readExpression_5 : decode b_M_readExpression 5 = .ok (.aload_n 0, 1) := by decide +kernel
theorem d_M_readExpression_6 : decode b_M_readExpression 6 = .ok (.dup, 1) := by decide +kernel
theorem d_M_readExpression_7 : decode b_M_readExpression 7 = .ok (.getfield 380, 3) := by decide +kernel
theorem d_M_readExpression_10 : decode b_M_readExpression 10 = .ok (.iconst 1, 1) := by decide +kernel
theorem d_M_readExpression_11 : decode b_M_readExpression 11 = .ok (.iadd, 1) := by decide +kernel
theorem d_M_readExpression_12 : decode b_M_readExpression 12 = .ok (.putfield 380, 3) := by decide +kernel
theorem d_M_readExpression_15 : decode b_M_readExpression 15 = .ok (.aload_n 0, 1) := by decide +kernel
theorem d_M_readExpression_16 : decode b_M_readExpression 16 = .ok (.getfield 111, 3) := by decide +kernel
theorem d_M_readExpression_19 : decode b_M_readExpression 19 = .ok (.iload_n 1, 1) := by decide +kernel
theorem d_M_readExpression_20 : decode b_M_readExpression 20 = .ok (.aload_n 0, 1) := by decide +kernel
theorem d_M_readExpression_21 : decode b_M_readExpression 21 = .ok (.getfield 383, 3) := by decide +kernel
theorem d_M_readExpression_24 : decode b_M_readExpression 24 = .ok (.iastore, 1) := by decide +kernel
theorem d_M_readExpression_25 : decode b_M_readExpression 25 = .ok (.aload_n 0, 1) := by decide +kernel
theorem d_M_readExpression_26 : decode b_M_readExpression 26 = .ok (.getfield 114, 3) := by decide +kernel
theorem d_M_readExpression_29 : decode b_M_readExpression 29 = .ok (.iload_n 1, 1) := by decide +kernel
theorem d_M_readExpression_30 : decode b_M_readExpression 30 = .ok (.iconst 0, 1) := by decide +kernel
theorem d_M_readExpression_31 : decode b_M_readExpression 31 = .ok (.iastore, 1) := by decide +kernel
theorem d_M_readExpression_32 : decode b_M_readExpression 32 = .ok (.iconst 1, 1) := by decide +kernel
theorem d_M_readExpression_33 : decode b_M_readExpression 33 = .ok (.istore_n 2, 1) := by decide +kernel
theorem d_M_readExpression_34 : decode b_M_readExpression 34 = .ok (.iconst 1, 1) := by decide +kernel
theorem d_M_readExpression_35 : decode b_M_readExpression 35 = .ok (.istore_n 3, 1) := by decide +kernel
theorem d_M_readExpression_36 : decode b_M_readExpression 36 = .ok (.iload_n 3, 1) := by decide +kernel
theorem d_M_readExpression_37 : decode b_M_readExpression 37 = .ok (.ifCond .eq 94, 3) := by decide +kernel
theorem d_M_readExpression_40 : decode b_M_readExpression 40 = .ok (.aload_n 0, 1) := by decide +kernel
theorem d_M_readExpression_41 : decode b_M_readExpression 41 = .ok (.invokevirtual 303, 3) := by decide +kernel
theorem d_M_readExpression_44 : decode b_M_readExpression 44 = .ok (.ifCond .ne 87, 3) := by decide +kernel
theorem d_M_readExpression_47 : decode b_M_readExpression 47 = .ok (.aload_n 0, 1) := by decide +kernel
theorem d_M_readExpression_48 : decode b_M_readExpression 48 = .ok (.iload_n 2, 1) := by decide +kernel
theorem d_M_readExpression_49 : decode b_M_readExpression 49 = .ok (.invokevirtual 386, 3) := by decide +kernel
theorem d_M_readExpression_52 : decode b_M_readExpression 52 = .ok (.aload_n 0, 1) := by decide +kernel
theorem d_M_readExpression_53 : decode b_M_readExpression 53 = .ok (.getfield 114, 3) := by decide +kernel
theorem d_M_readExpression_56 : decode b_M_readExpression 56 = .ok (.iload_n 1, 1) := by decide +kernel
theorem d_M_readExpression_57 : decode b_M_readExpression 57 = .ok (.dup2, 1) := by decide +kernel
theorem d_M_readExpression_58 : decode b_M_readExpression 58 = .ok (.iaload, 1) := by decide +kernel
theorem d_M_readExpression_59 : decode b_M_readExpression 59 = .ok (.iconst 1, 1) := by decide +kernel
theorem d_M_readExpression_60 : decode b_M_readExpression 60 = .ok (.iadd, 1) := by decide +kernel
theorem d_M_readExpression_61 : decode b_M_readExpression 61 = .ok (.iastore, 1) := by decide +kernel
theorem d_M_readExpression_62 : decode b_M_readExpression 62 = .ok (.aload_n 0, 1) := by decide +kernel
theorem d_M_readExpression_63 : decode b_M_readExpression 63 = .ok (.getfield 114, 3) := by decide +kernel
theorem d_M_readExpression_66 : decode b_M_readExpression 66 = .ok (.iload_n 1, 1) := by decide +kernel
theorem d_M_readExpression_67 : decode b_M_readExpression 67 = .ok (.iaload, 1) := by decide +kernel
theorem d_M_readExpression_68 : decode b_M_readExpression 68 = .ok (.iconst 4, 1) := by decide +kernel
theorem d_M_readExpression_69 : decode b_M_readExpression 69 = .ok (.if_icmp .ge 25, 3) := by decide +kernel
theorem d_M_readExpression_72 : decode b_M_readExpression 72 = .ok (.aload_n 0, 1) := by decide +kernel
theorem d_M_readExpression_73 : decode b_M_readExpression 73 = .ok (.bipush 43, 2) := by decide +kernel
theorem d_M_readExpression_75 : decode b_M_readExpression 75 = .ok (.invokevirtual 377, 3) := by decide +kernel
theorem d_M_readExpression_78 : decode b_M_readExpression 78 = .ok (.ifCond .ne 12, 3) := by decide +kernel
theorem d_M_readExpression_81 : decode b_M_readExpression 81 = .ok (.aload_n 0, 1) := by decide +kernel
theorem d_M_readExpression_82 : decode b_M_readExpression 82 = .ok (.bipush 45, 2) := by decide +kernel
theorem d_M_readExpression_84 : decode b_M_readExpression 84 = .ok (.invokevirtual 377, 3) := by decide +kernel
theorem d_M_readExpression_87 : decode b_M_readExpression 87 = .ok (.ifCond .eq 7, 3) := by decide +kernel
theorem d_M_readExpression_90 : decode b_M_readExpression 90 = .ok (.iconst 1, 1) := by decide +kernel
theorem d_M_readExpression_91 : decode b_M_readExpression 91 = .ok (.goto 4, 3) := by decide +kernel
theorem d_M_readExpression_94 : decode b_M_readExpression 94 = .ok (.iconst 0, 1) := by decide +kernel
theorem d_M_readExpression_95 : decode b_M_readExpression 95 = .ok (.istore_n 3, 1) := by decide +kernel
theorem d_M_readExpression_96 : decode b_M_readExpression 96 = .ok (.iload_n 3, 1) := by decide +kernel
theorem d_M_readExpression_97 : decode b_M_readExpression 97 = .ok (.ifCond .ne 6, 3) := by decide +kernel
theorem d_M_readExpression_100 : decode b_M_readExpression 100 = .ok (.goto (-64), 3) := by decide +kernel
theorem d_M_readExpression_103 : decode b_M_readExpression 103 = .ok (.aload_n 0, 1) := by decide +kernel
theorem d_M_readExpression_104 : decode b_M_readExpression 104 = .ok (.bipush 43, 2) := by decide +kernel
theorem d_M_readExpression_106 : decode b_M_readExpression 106 = .ok (.invokevirtual 377, 3) := by decide +kernel
theorem d_M_readExpression_109 : decode b_M_readExpression 109 = .ok (.ifCond .eq 7, 3) := by decide +kernel
theorem d_M_readExpression_112 : decode b_M_readExpression 112 = .ok (.iconst 1, 1) := by decide +kernel
theorem d_M_readExpression_113 : decode b_M_readExpression 113 = .ok (.goto 4, 3) := by decide +kernel
theorem d_M_readExpression_116 : decode b_M_readExpression 116 = .ok (.iconst (-1), 1) := by decide +kernel
theorem d_M_readExpression_117 : decode b_M_readExpression 117 = .ok (.istore_n 2, 1) := by decide +kernel
theorem d_M_readExpression_118 : decode b_M_readExpression 118 = .ok (.aload_n 0, 1) := by decide +kernel
theorem d_M_readExpression_119 : decode b_M_readExpression 119 = .ok (.dup, 1) := by decide +kernel
theorem d_M_readExpression_120 : decode b_M_readExpression 120 = .ok (.getfield 307, 3) := by decide +kernel
theorem d_M_readExpression_123 : decode b_M_readExpression 123 = .ok (.iconst 1, 1) := by decide +kernel
theorem d_M_readExpression_124 : decode b_M_readExpression 124 = .ok (.iadd, 1) := by decide +kernel
theorem d_M_readExpression_125 : decode b_M_readExpression 125 = .ok (.putfield 307, 3) := by decide +kernel
theorem d_M_readExpression_128 : decode b_M_readExpression 128 = .ok (.goto (-92), 3) := by decide +kernel
theorem d_M_readExpression_131 : decode b_M_readExpression 131 = .ok (.iload_n 1, 1) := by decide +kernel
theorem d_M_readExpression_132 : decode b_M_readExpression 132 = .ok (.ireturn, 1) := by decide +kernel
theorem d_M_readItem_0 : decode b_M_readItem 0 = .ok (.aload_n 0, 1) := by decide +kernel
theorem d_M_readItem_1 : decode b_M_readItem 1 = .ok (.getfield 26, 3) := by decide +kernel
theorem d_M_readItem_4 : decode b_M_readItem 4 = .ok (.aload_n 0, 1) := by decide +kernel
theorem d_M_readItem_5 : decode b_M_readItem 5 = .ok (.getfield 307, 3) := by decide +kernel
theorem d_M_readItem_8 : decode b_M_readItem 8 = .ok (.iaload, 1) := by decide +kernel
theorem d_M_readItem_9 : decode b_M_readItem 9 = .ok (.istore_n 2, 1) := by decide +kernel
theorem d_M_readItem_10 : decode b_M_readItem 10 = .ok (.aload_n 0, 1) := by decide +kernel
theorem d_M_readItem_11 : decode b_M_readItem 11 = .ok (.getfield 105, 3) := by decide +kernel
theorem d_M_readItem_14 : decode b_M_readItem 14 = .ok (.aload_n 0, 1) := by decide +kernel
theorem d_M_readItem_15 : decode b_M_readItem 15 = .ok (.getfield 352, 3) := by decide +kernel
theorem d_M_readItem_18 : decode b_M_readItem 18 = .ok (.iconst 0, 1) := by decide +kernel
theorem d_M_readItem_19 : decode b_M_readItem 19 = .ok (.iastore, 1) := by decide +kernel
theorem d_M_readItem_20 : decode b_M_readItem 20 = .ok (.aload_n 0, 1) := by decide +kernel
theorem d_M_readItem_21 : decode b_M_readItem 21 = .ok (.bipush 21, 2) := by decide +kernel
theorem d_M_readItem_23 : decode b_M_readItem 23 = .ok (.invokevirtual 310, 3) := by decide +kernel
theorem d_M_readItem_26 : decode b_M_readItem 26 = .ok (.ifCond .eq 38, 3) := by decide +kernel
theorem d_M_readItem_29 : decode b_M_readItem 29 = .ok (.aload_n 0, 1) := by decide +kernel
theorem d_M_readItem_30 : decode b_M_readItem 30 = .ok (.dup, 1) := by decide +kernel
theorem d_M_readItem_31 : decode b_M_readItem 31 = .ok (.getfield 307, 3) := by decide +kernel
theorem d_M_readItem_34 : decode b_M_readItem 34 = .ok (.iconst 1, 1) := by decide +kernel
theorem d_M_readItem_35 : decode b_M_readItem 35 = .ok (.iadd, 1) := by decide +kernel
theorem d_M_readItem_36 : decode b_M_readItem 36 = .ok (.putfield 307, 3) := by decide +kernel
theorem d_M_readItem_39 : decode b_M_readItem 39 = .ok (.aload_n 0, 1) := by decide +kernel
theorem d_M_readItem_40 : decode b_M_readItem 40 = .ok (.bipush 40, 2) := by decide +kernel
theorem d_M_readItem_42 : decode b_M_readItem 42 = .ok (.invokevirtual 346, 3) := by decide +kernel
theorem d_M_readItem_45 : decode b_M_readItem 45 = .ok (.aload_n 0, 1) := by decide +kernel
theorem d_M_readItem_46 : decode b_M_readItem 46 = .ok (.bipush 42, 2) := by decide +kernel
theorem d_M_readItem_48 : decode b_M_readItem 48 = .ok (.invokevirtual 346, 3) := by decide +kernel
theorem d_M_readItem_51 : decode b_M_readItem 51 = .ok (.aload_n 0, 1) := by decide +kernel
theorem d_M_readItem_52 : decode b_M_readItem 52 = .ok (.getfield 108, 3) := by decide +kernel
theorem d_M_readItem_55 : decode b_M_readItem 55 = .ok (.aload_n 0, 1) := by decide +kernel
theorem d_M_readItem_56 : decode b_M_readItem 56 = .ok (.getfield 352, 3) := by decide +kernel
theorem d_M_readItem_59 : decode b_M_readItem 59 = .ok (.iconst (-1), 1) := by decide +kernel
theorem d_M_readItem_60 : decode b_M_readItem 60 = .ok (.iastore, 1) := by decide +kernel
theorem d_M_readItem_61 : decode b_M_readItem 61 = .ok (.goto 69, 3) := by decide +kernel
theorem d_M_readItem_64 : decode b_M_readItem 64 = .ok (.aload_n 0, 1) := by decide +kernel
theorem d_M_readItem_65 : decode b_M_readItem 65 = .ok (.invokevirtual 303, 3) := by decide +kernel
theorem d_M_readItem_68 : decode b_M_readItem 68 = .ok (.ifCond .ne 47, 3) := by decide +kernel
theorem d_M_readItem_71 : decode b_M_readItem 71 = .ok (.iload_n 2, 1) := by decide +kernel
theorem d_M_readItem_72 : decode b_M_readItem 72 = .ok (.bipush 22, 2) := by decide +kernel
theorem d_M_readItem_74 : decode b_M_readItem 74 = .ok (.if_icmp .lt 41, 3) := by decide +kernel
theorem d_M_readItem_77 : decode b_M_readItem 77 = .ok (.iload_n 2, 1) := by decide +kernel
theorem d_M_readItem_78 : decode b_M_readItem 78 = .ok (.bipush 24, 2) := by decide +kernel
theorem d_M_readItem_80 : decode b_M_readItem 80 = .ok (.if_icmp .gt 35, 3) := by decide +kernel
theorem d_M_readItem_83 : decode b_M_readItem 83 = .ok (.aload_n 0, 1) := by decide +kernel
theorem d_M_readItem_84 : decode b_M_readItem 84 = .ok (.dup, 1) := by decide +kernel
theorem d_M_readItem_85 : decode b_M_readItem 85 = .ok (.getfield 307, 3) := by decide +kernel
theorem d_M_readItem_88 : decode b_M_readItem 88 = .ok (.iconst 1, 1) := by decide +kernel
theorem d_M_readItem_89 : decode b_M_readItem 89 = .ok (.iadd, 1) := by decide +kernel
theorem d_M_readItem_90 : decode b_M_readItem 90 = .ok (.putfield 307, 3) := by decide +kernel
theorem d_M_readItem_93 : decode b_M_readItem 93 = .ok (.aload_n 0, 1) := by decide +kernel
theorem d_M_readItem_94 : decode b_M_readItem 94 = .ok (.bipush 40, 2) := by decide +kernel
theorem d_M_readItem_96 : decode b_M_readItem 96 = .ok (.invokevirtual 346, 3) := by decide +kernel
theorem d_M_readItem_99 : decode b_M_readItem 99 = .ok (.aload_n 0, 1) := by decide +kernel
theorem d_M_readItem_100 : decode b_M_readItem 100 = .ok (.getfield 108, 3) := by decide +kernel
theorem d_M_readItem_103 : decode b_M_readItem 103 = .ok (.aload_n 0, 1) := by decide +kernel
theorem d_M_readItem_104 : decode b_M_readItem 104 = .ok (.getfield 352, 3) := by decide +kernel
theorem d_M_readItem_107 : decode b_M_readItem 107 = .ok (.aload_n 0, 1) := by decide +kernel
theorem d_M_readItem_108 : decode b_M_readItem 108 = .ok (.invokevirtual 371, 3) := by decide +kernel
theorem d_M_readItem_111 : decode b_M_readItem 111 = .ok (.iastore, 1) := by decide +kernel
theorem d_M_readItem_112 : decode b_M_readItem 112 = .ok (.goto 18, 3) := by decide +kernel
theorem d_M_readItem_115 : decode b_M_readItem 115 = .ok (.aload_n 0, 1) := by decide +kernel
theorem d_M_readItem_116 : decode b_M_readItem 116 = .ok (.getfield 108, 3) := by decide +kernel
theorem d_M_readItem_119 : decode b_M_readItem 119 = .ok (.aload_n 0, 1) := by decide +kernel
theorem d_M_readItem_120 : decode b_M_readItem 120 = .ok (.getfield 352, 3) := by decide +kernel
theorem d_M_readItem_123 : decode b_M_readItem 123 = .ok (.aload_n 0, 1) := by decide +kernel
theorem d_M_readItem_124 : decode b_M_readItem 124 = .ok (.invokevirtual 371, 3) := by decide +kernel
theorem d_M_readItem_127 : decode b_M_readItem 127 = .ok (.iastore, 1) := by decide +kernel
theorem d_M_readItem_128 : decode b_M_readItem 128 = .ok (.iconst 0, 1) := by decide +kernel
theorem d_M_readItem_129 : decode b_M_readItem 129 = .ok (.istore_n 2, 1) := by decide +kernel
theorem d_M_readItem_130 : decode b_M_readItem 130 = .ok (.iload_n 2, 1) := by decide +kernel
theorem d_M_readItem_131 : decode b_M_readItem 131 = .ok (.bipush 21, 2) := by decide +kernel
theorem d_M_readItem_133 : decode b_M_readItem 133 = .ok (.if_icmp .lt 32, 3) := by decide +kernel
theorem d_M_readItem_136 : decode b_M_readItem 136 = .ok (.iload_n 2, 1) := by decide +kernel
theorem d_M_readItem_137 : decode b_M_readItem 137 = .ok (.bipush 24, 2) := by decide +kernel
theorem d_M_readItem_139 : decode b_M_readItem 139 = .ok (.if_icmp .gt 26, 3) := by decide +kernel
theorem d_M_readItem_142 : decode b_M_readItem 142 = .ok (.aload_n 0, 1) := by decide +kernel
theorem d_M_readItem_143 : decode b_M_readItem 143 = .ok (.bipush 41, 2) := by decide +kernel
theorem d_M_readItem_145 : decode b_M_readItem 145 = .ok (.invokevirtual 346, 3) := by decide +kernel
theorem d_M_readItem_148 : decode b_M_readItem 148 = .ok (.aload_n 0, 1) := by decide +kernel
theorem d_M_readItem_149 : decode b_M_readItem 149 = .ok (.getfield 105, 3) := by decide +kernel
theorem d_M_readItem_152 : decode b_M_readItem 152 = .ok (.aload_n 0, 1) := by decide +kernel
theorem d_M_readItem_153 : decode b_M_readItem 153 = .ok (.getfield 352, 3) := by decide +kernel
theorem d_M_readItem_156 : decode b_M_readItem 156 = .ok (.iload_n 2, 1) := by decide +kernel
theorem d_M_readItem_157 : decode b_M_readItem 157 = .ok (.iastore, 1) := by decide +kernel
theorem d_M_readItem_158 : decode b_M_readItem 158 = .ok (.aload_n 0, 1) := by decide +kernel
theorem d_M_readItem_159 : decode b_M_readItem 159 = .ok (.getfield 102, 3) := by decide +kernel
theorem d_M_readItem_162 : decode b_M_readItem 162 = .ok (.iload_n 1, 1) := by decide +kernel
theorem d_M_readItem_163 : decode b_M_readItem 163 = .ok (.iconst 1, 1) := by decide +kernel
theorem d_M_readItem_164 : decode b_M_readItem 164 = .ok (.bastore, 1) := by decide +kernel
theorem d_M_readItem_165 : decode b_M_readItem 165 = .ok (.aload_n 0, 1) := by decide +kernel
theorem d_M_readItem_166 : decode b_M_readItem 166 = .ok (.dup, 1) := by decide +kernel
theorem d_M_readItem_167 : decode b_M_readItem 167 = .ok (.getfield 352, 3) := by decide +kernel
theorem d_M_readItem_170 : decode b_M_readItem 170 = .ok (.iconst 1, 1) := by decide +kernel
theorem d_M_readItem_171 : decode b_M_readItem 171 = .ok (.iadd, 1) := by decide +kernel
theorem d_M_readItem_172 : decode b_M_readItem 172 = .ok (.putfield 352, 3) := by decide +kernel
theorem d_M_readItem_175 : decode b_M_readItem 175 = .ok (.aload_n 0, 1) := by decide +kernel
theorem d_M_readItem_176 : decode b_M_readItem 176 = .ok (.getfield 87, 3) := by decide +kernel
theorem d_M_readItem_179 : decode b_M_readItem 179 = .ok (.iload_n 1, 1) := by decide +kernel
theorem d_M_readItem_180 : decode b_M_readItem 180 = .ok (.dup2, 1) := by decide +kernel
theorem d_M_readItem_181 : decode b_M_readItem 181 = .ok (.iaload, 1) := by decide +kernel
theorem d_M_readItem_182 : decode b_M_readItem 182 = .ok (.iconst 1, 1) := by decide +kernel
theorem d_M_readItem_183 : decode b_M_readItem 183 = .ok (.iadd, 1) := by decide +kernel
theorem d_M_readItem_184 : decode b_M_readItem 184 = .ok (.iastore, 1) := by decide +kernel
theorem d_M_readItem_185 : decode b_M_readItem 185 = .ok (.return_, 1) := by decide +kernel
theorem d_M_readSource_0 : decode b_M_readSource 0 = .ok (.aload_n 0, 1) := by decide +kernel
theorem d_M_readSource_1 : decode b_M_readSource 1 = .ok (.getfield 132, 3) := by decide +kernel
theorem d_M_readSource_4 : decode b_M_readSource 4 = .ok (.aload_n 0, 1) := by decide +kernel
theorem d_M_readSource_5 : decode b_M_readSource 5 = .ok (.getfield 358, 3) := by decide +kernel
theorem d_M_readSource_8 : decode b_M_readSource 8 = .ok (.aload_n 0, 1) := by decide +kernel
theorem d_M_readSource_9 : decode b_M_readSource 9 = .ok (.bipush 30, 2) := by decide +kernel
theorem d_M_readSource_11 : decode b_M_readSource 11 = .ok (.invokevirtual 317, 3) := by decide +kernel
theorem d_M_readSource_14 : decode b_M_readSource 14 = .ok (.iastore, 1) := by decide +kernel
theorem d_M_readSource_15 : decode b_M_readSource 15 = .ok (.aload_n 0, 1) := by decide +kernel
theorem d_M_readSource_16 : decode b_M_readSource 16 = .ok (.getfield 135, 3) := by decide +kernel
theorem d_M_readSource_19 : decode b_M_readSource 19 = .ok (.aload_n 0, 1) := by decide +kernel
theorem d_M_readSource_20 : decode b_M_readSource 20 = .ok (.getfield 358, 3) := by decide +kernel
theorem d_M_readSource_23 : decode b_M_readSource 23 = .ok (.aload_n 0, 1) := by decide +kernel
theorem d_M_readSource_24 : decode b_M_readSource 24 = .ok (.bipush 30, 2) := by decide +kernel
theorem d_M_readSource_26 : decode b_M_readSource 26 = .ok (.invokevirtual 317, 3) := by decide +kernel
theorem d_M_readSource_29 : decode b_M_readSource 29 = .ok (.iastore, 1) := by decide +kernel
theorem d_M_readSource_30 : decode b_M_readSource 30 = .ok (.aload_n 0, 1) := by decide +kernel
theorem d_M_readSource_31 : decode b_M_readSource 31 = .ok (.dup, 1) := by decide +kernel
theorem d_M_readSource_32 : decode b_M_readSource 32 = .ok (.getfield 358, 3) := by decide +kernel
theorem d_M_readSource_35 : decode b_M_readSource 35 = .ok (.iconst 1, 1) := by decide +kernel
theorem d_M_readSource_36 : decode b_M_readSource 36 = .ok (.iadd, 1) := by decide +kernel
theorem d_M_readSource_37 : decode b_M_readSource 37 = .ok (.putfield 358, 3) := by decide +kernel
theorem d_M_readSource_40 : decode b_M_readSource 40 = .ok (.return_, 1) := by decide +kernel
theorem d_M_readCondition_0 : decode b_M_readCondition 0 = .ok (.aload_n 0, 1) := by decide +kernel
theorem d_M_readCondition_1 : decode b_M_readCondition 1 = .ok (.invokevirtual 371, 3) := by decide +kernel
theorem d_M_readCondition_4 : decode b_M_readCondition 4 = .ok (.istore_n 1, 1) := by decide +kernel
theorem d_M_readCondition_5 : decode b_M_readCondition 5 = .ok (.aload_n 0, 1) := by decide +kernel
theorem d_M_readCondition_6 : decode b_M_readCondition 6 = .ok (.getfield 374, 3) := by decide +kernel
theorem d_M_readCondition_9 : decode b_M_readCondition 9 = .ok (.istore_n 2, 1) := by decide +kernel
theorem d_M_readCondition_10 : decode b_M_readCondition 10 = .ok (.aload_n 0, 1) := by decide +kernel
theorem d_M_readCondition_11 : decode b_M_readCondition 11 = .ok (.dup, 1) := by decide +kernel
theorem d_M_readCondition_12 : decode b_M_readCondition 12 = .ok (.getfield 374, 3) := by decide +kernel
theorem d_M_readCondition_15 : decode b_M_readCondition 15 = .ok (.iconst 1, 1) := by decide +kernel
theorem d_M_readCondition_16 : decode b_M_readCondition 16 = .ok (.iadd, 1) := by decide +kernel
theorem d_M_readCondition_17 : decode b_M_readCondition 17 = .ok (.putfield 374, 3) := by decide +kernel
theorem d_M_readCondition_20 : decode b_M_readCondition 20 = .ok (.aload_n 0, 1) := by decide +kernel
theorem d_M_readCondition_21 : decode b_M_readCondition 21 = .ok (.getfield 147, 3) := by decide +kernel
theorem d_M_readCondition_24 : decode b_M_readCondition 24 = .ok (.iload_n 2, 1) := by decide +kernel
theorem d_M_readCondition_25 : decode b_M_readCondition 25 = .ok (.iload_n 1, 1) := by decide +kernel
theorem d_M_readCondition_26 : decode b_M_readCondition 26 = .ok (.iastore, 1) := by decide +kernel
theorem d_M_readCondition_27 : decode b_M_readCondition 27 = .ok (.aload_n 0, 1) := by decide +kernel
theorem d_M_readCondition_28 : decode b_M_readCondition 28 = .ok (.bipush 10, 2) := by decide +kernel
theorem d_M_readCondition_30 : decode b_M_readCondition 30 = .ok (.invokevirtual 320, 3) := by decide +kernel
theorem d_M_readCondition_33 : decode b_M_readCondition 33 = .ok (.ifCond .eq 19, 3) := by decide +kernel
theorem d_M_readCondition_36 : decode b_M_readCondition 36 = .ok (.aload_n 0, 1) := by decide +kernel
theorem d_M_readCondition_37 : decode b_M_readCondition 37 = .ok (.bipush 11, 2) := by decide +kernel
theorem d_M_readCondition_39 : decode b_M_readCondition 39 = .ok (.invokevirtual 317, 3) := by decide +kernel
theorem d_M_readCondition_42 : decode b_M_readCondition 42 = .ok (.pop, 1) := by decide +kernel
theorem d_M_readCondition_43 : decode b_M_readCondition 43 = .ok (.aload_n 0, 1) := by decide +kernel
theorem d_M_readCondition_44 : decode b_M_readCondition 44 = .ok (.getfield 141, 3) := by decide +kernel
theorem d_M_readCondition_47 : decode b_M_readCondition 47 = .ok (.iload_n 2, 1) := by decide +kernel
theorem d_M_readCondition_48 : decode b_M_readCondition 48 = .ok (.iconst 1, 1) := by decide +kernel
theorem d_M_readCondition_49 : decode b_M_readCondition 49 = .ok (.iastore, 1) := by decide +kernel
theorem d_M_readCondition_50 : decode b_M_readCondition 50 = .ok (.iload_n 2, 1) := by decide +kernel
theorem d_M_readCondition_51 : decode b_M_readCondition 51 = .ok (.ireturn, 1) := by decide +kernel
theorem d_M_readCondition_52 : decode b_M_readCondition 52 = .ok (.aload_n 0, 1) := by decide +kernel
theorem d_M_readCondition_53 : decode b_M_readCondition 53 = .ok (.getfield 141, 3) := by decide +kernel
theorem d_M_readCondition_56 : decode b_M_readCondition 56 = .ok (.iload_n 2, 1) := by decide +kernel
theorem d_M_readCondition_57 : decode b_M_readCondition 57 = .ok (.iconst 0, 1) := by decide +kernel
theorem d_M_readCondition_58 : decode b_M_readCondition 58 = .ok (.iastore, 1) := by decide +kernel
theorem d_M_readCondition_59 : decode b_M_readCondition 59 = .ok (.aload_n 0, 1) := by decide +kernel
theorem d_M_readCondition_60 : decode b_M_readCondition 60 = .ok (.getfield 144, 3) := by decide +kernel
theorem d_M_readCondition_63 : decode b_M_readCondition 63 = .ok (.iload_n 2, 1) := by decide +kernel
theorem d_M_readCondition_64 : decode b_M_readCondition 64 = .ok (.aload_n 0, 1) := by decide +kernel
theorem d_M_readCondition_65 : decode b_M_readCondition 65 = .ok (.getfield 26, 3) := by decide +kernel
theorem d_M_readCondition_68 : decode b_M_readCondition 68 = .ok (.aload_n 0, 1) := by decide +kernel
theorem d_M_readCondition_69 : decode b_M_readCondition 69 = .ok (.getfield 307, 3) := by decide +kernel
theorem d_M_readCondition_72 : decode b_M_readCondition 72 = .ok (.iaload, 1) := by decide +kernel
theorem d_M_readCondition_73 : decode b_M_readCondition 73 = .ok (.iastore, 1) := by decide +kernel
theorem d_M_readCondition_74 : decode b_M_readCondition 74 = .ok (.aload_n 0, 1) := by decide +kernel
theorem d_M_readCondition_75 : decode b_M_readCondition 75 = .ok (.bipush 61, 2) := by decide +kernel
theorem d_M_readCondition_77 : decode b_M_readCondition 77 = .ok (.invokevirtual 377, 3) := by decide +kernel
theorem d_M_readCondition_80 : decode b_M_readCondition 80 = .ok (.ifCond .ne 30, 3) := by decide +kernel
theorem d_M_readCondition_83 : decode b_M_readCondition 83 = .ok (.aload_n 0, 1) := by decide +kernel
theorem d_M_readCondition_84 : decode b_M_readCondition 84 = .ok (.bipush 60, 2) := by decide +kernel
theorem d_M_readCondition_86 : decode b_M_readCondition 86 = .ok (.invokevirtual 377, 3) := by decide +kernel
theorem d_M_readCondition_89 : decode b_M_readCondition 89 = .ok (.ifCond .ne 21, 3) := by decide +kernel
theorem d_M_readCondition_92 : decode b_M_readCondition 92 = .ok (.aload_n 0, 1) := by decide +kernel
theorem d_M_readCondition_93 : decode b_M_readCondition 93 = .ok (.bipush 62, 2) := by decide +kernel
theorem d_M_readCondition_95 : decode b_M_readCondition 95 = .ok (.invokevirtual 377, 3) := by decide +kernel
theorem d_M_readCondition_98 : decode b_M_readCondition 98 = .ok (.ifCond .ne 12, 3) := by decide +kernel
theorem d_M_readCondition_101 : decode b_M_readCondition 101 = .ok (.aload_n 0, 1) := by decide +kernel
theorem d_M_readCondition_102 : decode b_M_readCondition 102 = .ok (.bipush 32, 2) := by decide +kernel
theorem d_M_readCondition_104 : decode b_M_readCondition 104 = .ok (.invokevirtual 310, 3) := by decide +kernel
theorem d_M_readCondition_107 : decode b_M_readCondition 107 = .ok (.ifCond .eq 16, 3) := by decide +kernel
theorem d_M_readCondition_110 : decode b_M_readCondition 110 = .ok (.aload_n 0, 1) := by decide +kernel
theorem d_M_readCondition_111 : decode b_M_readCondition 111 = .ok (.dup, 1) := by decide +kernel
theorem d_M_readCondition_112 : decode b_M_readCondition 112 = .ok (.getfield 307, 3) := by decide +kernel
theorem d_M_readCondition_115 : decode b_M_readCondition 115 = .ok (.iconst 1, 1) := by decide +kernel
theorem d_M_readCondition_116 : decode b_M_readCondition 116 = .ok (.iadd, 1) := by decide +kernel
theorem d_M_readCondition_117 : decode b_M_readCondition 117 = .ok (.putfield 307, 3) := by decide +kernel
theorem d_M_readCondition_120 : decode b_M_readCondition 120 = .ok (.goto 24, 3) := by decide +kernel
theorem d_M_readCondition_123 : decode b_M_readCondition 123 = .ok (.aload_n 0, 1) := by decide +kernel
theorem d_M_readCondition_124 : decode b_M_readCondition 124 = .ok (.invokevirtual 303, 3) := by decide +kernel
theorem d_M_readCondition_127 : decode b_M_readCondition 127 = .ok (.ifCond .ne 17, 3) := by decide +kernel
theorem d_M_readCondition_130 : decode b_M_readCondition 130 = .ok (.aload_n 0, 1) := by decide +kernel
theorem d_M_readCondition_131 : decode b_M_readCondition 131 = .ok (.iconst 1, 1) := by decide +kernel
theorem d_M_readCondition_132 : decode b_M_readCondition 132 = .ok (.aload_n 0, 1) := by decide +kernel
theorem d_M_readCondition_133 : decode b_M_readCondition 133 = .ok (.getfield 29, 3) := by decide +kernel
theorem d_M_readCondition_136 : decode b_M_readCondition 136 = .ok (.aload_n 0, 1) := by decide +kernel
theorem d_M_readCondition_137 : decode b_M_readCondition 137 = .ok (.getfield 307, 3) := by decide +kernel
theorem d_M_readCondition_140 : decode b_M_readCondition 140 = .ok (.iaload, 1) := by decide +kernel
theorem d_M_readCondition_141 : decode b_M_readCondition 141 = .ok (.invokevirtual 313, 3) := by decide +kernel
theorem d_M_readCondition_144 : decode b_M_readCondition 144 = .ok (.aload_n 0, 1) := by decide +kernel
theorem d_M_readCondition_145 : decode b_M_readCondition 145 = .ok (.getfield 150, 3) := by decide +kernel
theorem d_M_readCondition_148 : decode b_M_readCondition 148 = .ok (.iload_n 2, 1) := by decide +kernel
theorem d_M_readCondition_149 : decode b_M_readCondition 149 = .ok (.aload_n 0, 1) := by decide +kernel
theorem d_M_readCondition_150 : decode b_M_readCondition 150 = .ok (.invokevirtual 371, 3) := by decide +kernel
theorem d_M_readCondition_153 : decode b_M_readCondition 153 = .ok (.iastore, 1) := by decide +kernel
theorem d_M_readCondition_154 : decode b_M_readCondition 154 = .ok (.iload_n 2, 1) := by decide +kernel
theorem d_M_readCondition_155 : decode b_M_readCondition 155 = .ok (.ireturn, 1) := by decide +kernel
theorem d_M_readNotExists_0 : decode b_M_readNotExists 0 = .ok (.aload_n 0, 1) := by decide +kernel
theorem d_M_readNotExists_1 : decode b_M_readNotExists 1 = .ok (.dup, 1) := by decide +kernel
theorem d_M_readNotExists_2 : decode b_M_readNotExists 2 = .ok (.getfield 307, 3) := by decide +kernel
theorem d_M_readNotExists_5 : decode b_M_readNotExists 5 = .ok (.iconst 1, 1) := by decide +kernel
theorem d_M_readNotExists_6 : decode b_M_readNotExists 6 = .ok (.iadd, 1) := by decide +kernel
theorem d_M_readNotExists_7 : decode b_M_readNotExists 7 = .ok (.putfield 307, 3) := by decide +kernel
theorem d_M_readNotExists_10 : decode b_M_readNotExists 10 = .ok (.aload_n 0, 1) := by decide +kernel
theorem d_M_readNotExists_11 : decode b_M_readNotExists 11 = .ok (.getfield 374, 3) := by decide +kernel
theorem d_M_readNotExists_14 : decode b_M_readNotExists 14 = .ok (.istore_n 1, 1) := by decide +kernel
theorem d_M_readNotExists_15 : decode b_M_readNotExists 15 = .ok (.aload_n 0, 1) := by decide +kernel
theorem d_M_readNotExists_16 : decode b_M_readNotExists 16 = .ok (.dup, 1) := by decide +kernel
theorem d_M_readNotExists_17 : decode b_M_readNotExists 17 = .ok (.getfield 374, 3) := by decide +kernel
theorem d_M_readNotExists_20 : decode b_M_readNotExists 20 = .ok (.iconst 1, 1) := by decide +kernel
theorem d_M_readNotExists_21 : decode b_M_readNotExists 21 = .ok (.iadd, 1) := by decide +kernel
theorem d_M_readNotExists_22 : decode b_M_readNotExists 22 = .ok (.putfield 374, 3) := by decide +kernel
theorem d_M_readNotExists_25 : decode b_M_readNotExists 25 = .ok (.aload_n 0, 1) := by decide +kernel
theorem d_M_readNotExists_26 : decode b_M_readNotExists 26 = .ok (.getfield 141, 3) := by decide +kernel
theorem d_M_readNotExists_29 : decode b_M_readNotExists 29 = .ok (.iload_n 1, 1) := by decide +kernel
theorem d_M_readNotExists_30 : decode b_M_readNotExists 30 = .ok (.iconst 2, 1) := by decide +kernel
theorem d_M_readNotExists_31 : decode b_M_readNotExists 31 = .ok (.iastore, 1) := by decide +kernel
theorem d_M_readNotExists_32 : decode b_M_readNotExists 32 = .ok (.aload_n 0, 1) := by decide +kernel
theorem d_M_readNotExists_33 : decode b_M_readNotExists 33 = .ok (.getfield 156, 3) := by decide +kernel
theorem d_M_readNotExists_36 : decode b_M_readNotExists 36 = .ok (.iload_n 1, 1) := by decide +kernel
theorem d_M_readNotExists_37 : decode b_M_readNotExists 37 = .ok (.iconst 0, 1) := by decide +kernel
theorem d_M_readNotExists_38 : decode b_M_readNotExists 38 = .ok (.iastore, 1) := by decide +kernel
theorem d_M_readNotExists_39 : decode b_M_readNotExists 39 = .ok (.aload_n 0, 1) := by decide +kernel
theorem d_M_readNotExists_40 : decode b_M_readNotExists 40 = .ok (.bipush 9, 2) := by decide +kernel
theorem d_M_readNotExists_42 : decode b_M_readNotExists 42 = .ok (.invokevirtual 317, 3) := by decide +kernel
theorem d_M_readNotExists_45 : decode b_M_readNotExists 45 = .ok (.pop, 1) := by decide +kernel
theorem d_M_readNotExists_46 : decode b_M_readNotExists 46 = .ok (.aload_n 0, 1) := by decide +kernel
theorem d_M_readNotExists_47 : decode b_M_readNotExists 47 = .ok (.bipush 40, 2) := by decide +kernel
theorem d_M_readNotExists_49 : decode b_M_readNotExists 49 = .ok (.invokevirtual 346, 3) := by decide +kernel
theorem d_M_readNotExists_52 : decode b_M_readNotExists 52 = .ok (.aload_n 0, 1) := by decide +kernel
theorem d_M_readNotExists_53 : decode b_M_readNotExists 53 = .ok (.iconst 4, 1) := by decide +kernel
theorem d_M_readNotExists_54 : decode b_M_readNotExists 54 = .ok (.invokevirtual 317, 3) := by decide +kernel
theorem d_M_readNotExists_57 : decode b_M_readNotExists 57 = .ok (.pop, 1) := by decide +kernel
theorem d_M_readNotExists_58 : decode b_M_readNotExists 58 = .ok (.aload_n 0, 1) := by decide +kernel
theorem d_M_readNotExists_59 : decode b_M_readNotExists 59 = .ok (.bipush 31, 2) := by decide +kernel
theorem d_M_readNotExists_61 : decode b_M_readNotExists 61 = .ok (.invokevirtual 310, 3) := by decide +kernel
theorem d_M_readNotExists_64 : decode b_M_readNotExists 64 = .ok (.ifCond .eq 31, 3) := by decide +kernel
theorem d_M_readNotExists_67 : decode b_M_readNotExists 67 = .ok (.aload_n 0, 1) := by decide +kernel
theorem d_M_readNotExists_68 : decode b_M_readNotExists 68 = .ok (.getfield 32, 3) := by decide +kernel
theorem d_M_readNotExists_71 : decode b_M_readNotExists 71 = .ok (.aload_n 0, 1) := by decide +kernel
theorem d_M_readNotExists_72 : decode b_M_readNotExists 72 = .ok (.getfield 307, 3) := by decide +kernel
theorem d_M_readNotExists_75 : decode b_M_readNotExists 75 = .ok (.laload, 1) := by decide +kernel
theorem d_M_readNotExists_76 : decode b_M_readNotExists 76 = .ok (.lconst 1, 1) := by decide +kernel
theorem d_M_readNotExists_77 : decode b_M_readNotExists 77 = .ok (.lcmp, 1) := by decide +kernel
theorem d_M_readNotExists_78 : decode b_M_readNotExists 78 = .ok (.ifCond .eq 17, 3) := by decide +kernel
theorem d_M_readNotExists_81 : decode b_M_readNotExists 81 = .ok (.aload_n 0, 1) := by decide +kernel
theorem d_M_readNotExists_82 : decode b_M_readNotExists 82 = .ok (.iconst 1, 1) := by decide +kernel
theorem d_M_readNotExists_83 : decode b_M_readNotExists 83 = .ok (.aload_n 0, 1) := by decide +kernel
theorem d_M_readNotExists_84 : decode b_M_readNotExists 84 = .ok (.getfield 29, 3) := by decide +kernel
theorem d_M_readNotExists_87 : decode b_M_readNotExists 87 = .ok (.aload_n 0, 1) := by decide +kernel
theorem d_M_readNotExists_88 : decode b_M_readNotExists 88 = .ok (.getfield 307, 3) := by decide +kernel
theorem d_M_readNotExists_91 : decode b_M_readNotExists 91 = .ok (.iaload, 1) := by decide +kernel
theorem d_M_readNotExists_92 : decode b_M_readNotExists 92 = .ok (.invokevirtual 313, 3) := by decide +kernel
theorem d_M_readNotExists_95 : decode b_M_readNotExists 95 = .ok (.aload_n 0, 1) := by decide +kernel
theorem d_M_readNotExists_96 : decode b_M_readNotExists 96 = .ok (.bipush 31, 2) := by decide +kernel
theorem d_M_readNotExists_98 : decode b_M_readNotExists 98 = .ok (.invokevirtual 317, 3) := by decide +kernel
theorem d_M_readNotExists_101 : decode b_M_readNotExists 101 = .ok (.pop, 1) := by decide +kernel
theorem d_M_readNotExists_102 : decode b_M_readNotExists 102 = .ok (.aload_n 0, 1) := by decide +kernel
theorem d_M_readNotExists_103 : decode b_M_readNotExists 103 = .ok (.iconst 5, 1) := by decide +kernel
theorem d_M_readNotExists_104 : decode b_M_readNotExists 104 = .ok (.invokevirtual 317, 3) := by decide +kernel
theorem d_M_readNotExists_107 : decode b_M_readNotExists 107 = .ok (.pop, 1) := by decide +kernel
theorem d_M_readNotExists_108 : decode b_M_readNotExists 108 = .ok (.aload_n 0, 1) := by decide +kernel
theorem d_M_readNotExists_109 : decode b_M_readNotExists 109 = .ok (.getfield 153, 3) := by decide +kernel
theorem d_M_readNotExists_112 : decode b_M_readNotExists 112 = .ok (.iload_n 1, 1) := by decide +kernel
theorem d_M_readNotExists_113 : decode b_M_readNotExists 113 = .ok (.aload_n 0, 1) := by decide +kernel
theorem d_M_readNotExists_114 : decode b_M_readNotExists 114 = .ok (.getfield 358, 3) := by decide +kernel
theorem d_M_readNotExists_117 : decode b_M_readNotExists 117 = .ok (.iastore, 1) := by decide +kernel
theorem d_M_readNotExists_118 : decode b_M_readNotExists 118 = .ok (.aload_n 0, 1) := by decide +kernel
theorem d_M_readNotExists_119 : decode b_M_readNotExists 119 = .ok (.invokevirtual 361, 3) := by decide +kernel
theorem d_M_readNotExists_122 : decode b_M_readNotExists 122 = .ok (.aload_n 0, 1) := by decide +kernel
theorem d_M_readNotExists_123 : decode b_M_readNotExists 123 = .ok (.bipush 6, 2) := by decide +kernel
theorem d_M_readNotExists_125 : decode b_M_readNotExists 125 = .ok (.invokevirtual 320, 3) := by decide +kernel
theorem d_M_readNotExists_128 : decode b_M_readNotExists 128 = .ok (.ifCond .eq 73, 3) := by decide +kernel
theorem d_M_readNotExists_131 : decode b_M_readNotExists 131 = .ok (.iconst 1, 1) := by decide +kernel
theorem d_M_readNotExists_132 : decode b_M_readNotExists 132 = .ok (.istore_n 2, 1) := by decide +kernel
theorem d_M_readNotExists_133 : decode b_M_readNotExists 133 = .ok (.iload_n 2, 1) := by decide +kernel
theorem d_M_readNotExists_134 : decode b_M_readNotExists 134 = .ok (.ifCond .eq 67, 3) := by decide +kernel
theorem d_M_readNotExists_137 : decode b_M_readNotExists 137 = .ok (.aload_n 0, 1) := by decide +kernel
theorem d_M_readNotExists_138 : decode b_M_readNotExists 138 = .ok (.invokevirtual 303, 3) := by decide +kernel
theorem d_M_readNotExists_141 : decode b_M_readNotExists 141 = .ok (.ifCond .ne 60, 3) := by decide +kernel
theorem d_M_readNotExists_144 : decode b_M_readNotExists 144 = .ok (.aload_n 0, 1) := by decide +kernel
theorem d_M_readNotExists_145 : decode b_M_readNotExists 145 = .ok (.getfield 159, 3) := by decide +kernel
theorem d_M_readNotExists_148 : decode b_M_readNotExists 148 = .ok (.iconst 3, 1) := by decide +kernel
theorem d_M_readNotExists_149 : decode b_M_readNotExists 149 = .ok (.iload_n 1, 1) := by decide +kernel
theorem d_M_readNotExists_150 : decode b_M_readNotExists 150 = .ok (.imul, 1) := by decide +kernel
theorem d_M_readNotExists_151 : decode b_M_readNotExists 151 = .ok (.aload_n 0, 1) := by decide +kernel
theorem d_M_readNotExists_152 : decode b_M_readNotExists 152 = .ok (.getfield 156, 3) := by decide +kernel
theorem d_M_readNotExists_155 : decode b_M_readNotExists 155 = .ok (.iload_n 1, 1) := by decide +kernel
theorem d_M_readNotExists_156 : decode b_M_readNotExists 156 = .ok (.iaload, 1) := by decide +kernel
theorem d_M_readNotExists_157 : decode b_M_readNotExists 157 = .ok (.iadd, 1) := by decide +kernel
theorem d_M_readNotExists_158 : decode b_M_readNotExists 158 = .ok (.aload_n 0, 1) := by decide +kernel
theorem d_M_readNotExists_159 : decode b_M_readNotExists 159 = .ok (.invokevirtual 368, 3) := by decide +kernel
theorem d_M_readNotExists_162 : decode b_M_readNotExists 162 = .ok (.iastore, 1) := by decide +kernel
theorem d_M_readNotExists_163 : decode b_M_readNotExists 163 = .ok (.aload_n 0, 1) := by decide +kernel
theorem d_M_readNotExists_164 : decode b_M_readNotExists 164 = .ok (.getfield 156, 3) := by decide +kernel
theorem d_M_readNotExists_167 : decode b_M_readNotExists 167 = .ok (.iload_n 1, 1) := by decide +kernel
theorem d_M_readNotExists_168 : decode b_M_readNotExists 168 = .ok (.dup2, 1) := by decide +kernel
theorem d_M_readNotExists_169 : decode b_M_readNotExists 169 = .ok (.iaload, 1) := by decide +kernel
theorem d_M_readNotExists_170 : decode b_M_readNotExists 170 = .ok (.iconst 1, 1) := by decide +kernel
theorem d_M_readNotExists_171 : decode b_M_readNotExists 171 = .ok (.iadd, 1) := by decide +kernel
theorem d_M_readNotExists_172 : decode b_M_readNotExists 172 = .ok (.iastore, 1) := by decide +kernel
theorem d_M_readNotExists_173 : decode b_M_readNotExists 173 = .ok (.aload_n 0, 1) := by decide +kernel
theorem d_M_readNotExists_174 : decode b_M_readNotExists 174 = .ok (.getfield 156, 3) := by decide +kernel
theorem d_M_readNotExists_177 : decode b_M_readNotExists 177 = .ok (.iload_n 1, 1) := by decide +kernel
theorem d_M_readNotExists_178 : decode b_M_readNotExists 178 = .ok (.iaload, 1) := by decide +kernel
theorem d_M_readNotExists_179 : decode b_M_readNotExists 179 = .ok (.iconst 3, 1) := by decide +kernel
theorem d_M_readNotExists_180 : decode b_M_readNotExists 180 = .ok (.if_icmp .ge 16, 3) := by decide +kernel
theorem d_M_readNotExists_183 : decode b_M_readNotExists 183 = .ok (.aload_n 0, 1) := by decide +kernel
theorem d_M_readNotExists_184 : decode b_M_readNotExists 184 = .ok (.bipush 7, 2) := by decide +kernel
theorem d_M_readNotExists_186 : decode b_M_readNotExists 186 = .ok (.invokevirtual 320, 3) := by decide +kernel
theorem d_M_readNotExists_189 : decode b_M_readNotExists 189 = .ok (.ifCond .eq 7, 3) := by decide +kernel
theorem d_M_readNotExists_192 : decode b_M_readNotExists 192 = .ok (.iconst 1, 1) := by decide +kernel
theorem d_M_readNotExists_193 : decode b_M_readNotExists 193 = .ok (.goto 4, 3) := by decide +kernel
theorem d_M_readNotExists_196 : decode b_M_readNotExists 196 = .ok (.iconst 0, 1) := by decide +kernel
theorem d_M_readNotExists_197 : decode b_M_readNotExists 197 = .ok (.istore_n 2, 1) := by decide +kernel
theorem d_M_readNotExists_198 : decode b_M_readNotExists 198 = .ok (.goto (-65), 3) := by decide +kernel
theorem d_M_readNotExists_201 : decode b_M_readNotExists 201 = .ok (.aload_n 0, 1) := by decide +kernel
theorem d_M_readNotExists_202 : decode b_M_readNotExists 202 = .ok (.bipush 41, 2) := by decide +kernel
theorem d_M_readNotExists_204 : decode b_M_readNotExists 204 = .ok (.invokevirtual 346, 3) := by decide +kernel
theorem d_M_readNotExists_207 : decode b_M_readNotExists 207 = .ok (.iload_n 1, 1) := by decide +kernel
theorem d_M_readNotExists_208 : decode b_M_readNotExists 208 = .ok (.ireturn, 1) := by decide +kernel
theorem d_M_readSelection_0 : decode b_M_readSelection 0 = .ok (.aload_n 0, 1) := by decide +kernel
theorem d_M_readSelection_1 : decode b_M_readSelection 1 = .ok (.invokevirtual 303, 3) := by decide +kernel
theorem d_M_readSelection_4 : decode b_M_readSelection 4 = .ok (.ifCond .eq 4, 3) := by decide +kernel
theorem d_M_readSelection_7 : decode b_M_readSelection 7 = .ok (.return_, 1) := by decide +kernel
theorem d_M_readSelection_8 : decode b_M_readSelection 8 = .ok (.aload_n 0, 1) := by decide +kernel
theorem d_M_readSelection_9 : decode b_M_readSelection 9 = .ok (.getfield 336, 3) := by decide +kernel
theorem d_M_readSelection_12 : decode b_M_readSelection 12 = .ok (.istore_n 2, 1) := by decide +kernel
theorem d_M_readSelection_13 : decode b_M_readSelection 13 = .ok (.aload_n 0, 1) := by decide +kernel
theorem d_M_readSelection_14 : decode b_M_readSelection 14 = .ok (.getfield 78, 3) := by decide +kernel
theorem d_M_readSelection_17 : decode b_M_readSelection 17 = .ok (.iload_n 2, 1) := by decide +kernel
theorem d_M_readSelection_18 : decode b_M_readSelection 18 = .ok (.iload_n 1, 1) := by decide +kernel
theorem d_M_readSelection_19 : decode b_M_readSelection 19 = .ok (.iastore, 1) := by decide +kernel
theorem d_M_readSelection_20 : decode b_M_readSelection 20 = .ok (.aload_n 0, 1) := by decide +kernel
theorem d_M_readSelection_21 : decode b_M_readSelection 21 = .ok (.getfield 81, 3) := by decide +kernel
theorem d_M_readSelection_24 : decode b_M_readSelection 24 = .ok (.iload_n 2, 1) := by decide +kernel
theorem d_M_readSelection_25 : decode b_M_readSelection 25 = .ok (.aload_n 0, 1) := by decide +kernel
theorem d_M_readSelection_26 : decode b_M_readSelection 26 = .ok (.getfield 29, 3) := by decide +kernel
theorem d_M_readSelection_29 : decode b_M_readSelection 29 = .ok (.aload_n 0, 1) := by decide +kernel
theorem d_M_readSelection_30 : decode b_M_readSelection 30 = .ok (.getfield 307, 3) := by decide +kernel
theorem d_M_readSelection_33 : decode b_M_readSelection 33 = .ok (.iaload, 1) := by decide +kernel
theorem d_M_readSelection_34 : decode b_M_readSelection 34 = .ok (.iastore, 1) := by decide +kernel
theorem d_M_readSelection_35 : decode b_M_readSelection 35 = .ok (.aload_n 0, 1) := by decide +kernel
theorem d_M_readSelection_36 : decode b_M_readSelection 36 = .ok (.iconst 4, 1) := by decide +kernel
theorem d_M_readSelection_37 : decode b_M_readSelection 37 = .ok (.invokevirtual 317, 3) := by decide +kernel
theorem d_M_readSelection_40 : decode b_M_readSelection 40 = .ok (.pop, 1) := by decide +kernel
theorem d_M_readSelection_41 : decode b_M_readSelection 41 = .ok (.aload_n 0, 1) := by decide +kernel
theorem d_M_readSelection_42 : decode b_M_readSelection 42 = .ok (.getfield 84, 3) := by decide +kernel
theorem d_M_readSelection_45 : decode b_M_readSelection 45 = .ok (.iload_n 2, 1) := by decide +kernel
theorem d_M_readSelection_46 : decode b_M_readSelection 46 = .ok (.aload_n 0, 1) := by decide +kernel
theorem d_M_readSelection_47 : decode b_M_readSelection 47 = .ok (.getfield 352, 3) := by decide +kernel
theorem d_M_readSelection_50 : decode b_M_readSelection 50 = .ok (.iastore, 1) := by decide +kernel
theorem d_M_readSelection_51 : decode b_M_readSelection 51 = .ok (.aload_n 0, 1) := by decide +kernel
theorem d_M_readSelection_52 : decode b_M_readSelection 52 = .ok (.getfield 87, 3) := by decide +kernel
theorem d_M_readSelection_55 : decode b_M_readSelection 55 = .ok (.iload_n 2, 1) := by decide +kernel
theorem d_M_readSelection_56 : decode b_M_readSelection 56 = .ok (.iconst 0, 1) := by decide +kernel
theorem d_M_readSelection_57 : decode b_M_readSelection 57 = .ok (.iastore, 1) := by decide +kernel
theorem d_M_readSelection_58 : decode b_M_readSelection 58 = .ok (.aload_n 0, 1) := by decide +kernel
theorem d_M_readSelection_59 : decode b_M_readSelection 59 = .ok (.getfield 102, 3) := by decide +kernel
theorem d_M_readSelection_62 : decode b_M_readSelection 62 = .ok (.iload_n 2, 1) := by decide +kernel
theorem d_M_readSelection_63 : decode b_M_readSelection 63 = .ok (.iconst 0, 1) := by decide +kernel
theorem d_M_readSelection_64 : decode b_M_readSelection 64 = .ok (.bastore, 1) := by decide +kernel
theorem d_M_readSelection_65 : decode b_M_readSelection 65 = .ok (.iconst 1, 1) := by decide +kernel
theorem d_M_readSelection_66 : decode b_M_readSelection 66 = .ok (.istore_n 3, 1) := by decide +kernel
theorem d_M_readSelection_67 : decode b_M_readSelection 67 = .ok (.iload_n 3, 1) := by decide +kernel
theorem d_M_readSelection_68 : decode b_M_readSelection 68 = .ok (.ifCond .eq 43, 3) := by decide +kernel
theorem d_M_readSelection_71 : decode b_M_readSelection 71 = .ok (.aload_n 0, 1) := by decide +kernel
theorem d_M_readSelection_72 : decode b_M_readSelection 72 = .ok (.invokevirtual 303, 3) := by decide +kernel
theorem d_M_readSelection_75 : decode b_M_readSelection 75 = .ok (.ifCond .ne 36, 3) := by decide +kernel
theorem d_M_readSelection_78 : decode b_M_readSelection 78 = .ok (.aload_n 0, 1) := by decide +kernel
theorem d_M_readSelection_79 : decode b_M_readSelection 79 = .ok (.iload_n 2, 1) := by decide +kernel
theorem d_M_readSelection_80 : decode b_M_readSelection 80 = .ok (.invokevirtual 355, 3) := by decide +kernel
theorem d_M_readSelection_83 : decode b_M_readSelection 83 = .ok (.aload_n 0, 1) := by decide +kernel
theorem d_M_readSelection_84 : decode b_M_readSelection 84 = .ok (.getfield 87, 3) := by decide +kernel
theorem d_M_readSelection_87 : decode b_M_readSelection 87 = .ok (.iload_n 2, 1) := by decide +kernel
theorem d_M_readSelection_88 : decode b_M_readSelection 88 = .ok (.iaload, 1) := by decide +kernel
theorem d_M_readSelection_89 : decode b_M_readSelection 89 = .ok (.iconst 4, 1) := by decide +kernel
theorem d_M_readSelection_90 : decode b_M_readSelection 90 = .ok (.if_icmp .ge 16, 3) := by decide +kernel
theorem d_M_readSelection_93 : decode b_M_readSelection 93 = .ok (.aload_n 0, 1) := by decide +kernel
theorem d_M_readSelection_94 : decode b_M_readSelection 94 = .ok (.bipush 44, 2) := by decide +kernel
theorem d_M_readSelection_96 : decode b_M_readSelection 96 = .ok (.invokevirtual 333, 3) := by decide +kernel
theorem d_M_readSelection_99 : decode b_M_readSelection 99 = .ok (.ifCond .eq 7, 3) := by decide +kernel
theorem d_M_readSelection_102 : decode b_M_readSelection 102 = .ok (.iconst 1, 1) := by decide +kernel
theorem d_M_readSelection_103 : decode b_M_readSelection 103 = .ok (.goto 4, 3) := by decide +kernel
theorem d_M_readSelection_106 : decode b_M_readSelection 106 = .ok (.iconst 0, 1) := by decide +kernel
theorem d_M_readSelection_107 : decode b_M_readSelection 107 = .ok (.istore_n 3, 1) := by decide +kernel
theorem d_M_readSelection_108 : decode b_M_readSelection 108 = .ok (.goto (-41), 3) := by decide +kernel
theorem d_M_readSelection_111 : decode b_M_readSelection 111 = .ok (.aload_n 0, 1) := by decide +kernel
theorem d_M_readSelection_112 : decode b_M_readSelection 112 = .ok (.getfield 90, 3) := by decide +kernel
theorem d_M_readSelection_115 : decode b_M_readSelection 115 = .ok (.iload_n 2, 1) := by decide +kernel
theorem d_M_readSelection_116 : decode b_M_readSelection 116 = .ok (.aload_n 0, 1) := by decide +kernel
theorem d_M_readSelection_117 : decode b_M_readSelection 117 = .ok (.getfield 358, 3) := by decide +kernel
theorem d_M_readSelection_120 : decode b_M_readSelection 120 = .ok (.iastore, 1) := by decide +kernel
theorem d_M_readSelection_121 : decode b_M_readSelection 121 = .ok (.aload_n 0, 1) := by decide +kernel
theorem d_M_readSelection_122 : decode b_M_readSelection 122 = .ok (.getfield 93, 3) := by decide +kernel
theorem d_M_readSelection_125 : decode b_M_readSelection 125 = .ok (.iload_n 2, 1) := by decide +kernel
theorem d_M_readSelection_126 : decode b_M_readSelection 126 = .ok (.iconst 0, 1) := by decide +kernel
theorem d_M_readSelection_127 : decode b_M_readSelection 127 = .ok (.iastore, 1) := by decide +kernel
theorem d_M_readSelection_128 : decode b_M_readSelection 128 = .ok (.aload_n 0, 1) := by decide +kernel
theorem d_M_readSelection_129 : decode b_M_readSelection 129 = .ok (.iconst 5, 1) := by decide +kernel
theorem d_M_readSelection_130 : decode b_M_readSelection 130 = .ok (.invokevirtual 320, 3) := by decide +kernel
theorem d_M_readSelection_133 : decode b_M_readSelection 133 = .ok (.ifCond .eq 58, 3) := by decide +kernel
theorem d_M_readSelection_136 : decode b_M_readSelection 136 = .ok (.iconst 1, 1) := by decide +kernel
theorem d_M_readSelection_137 : decode b_M_readSelection 137 = .ok (.istore_n 3, 1) := by decide +kernel
theorem d_M_readSelection_138 : decode b_M_readSelection 138 = .ok (.iload_n 3, 1) := by decide +kernel
theorem d_M_readSelection_139 : decode b_M_readSelection 139 = .ok (.ifCond .eq 52, 3) := by decide +kernel
theorem d_M_readSelection_142 : decode b_M_readSelection 142 = .ok (.aload_n 0, 1) := by decide +kernel
theorem d_M_readSelection_143 : decode b_M_readSelection 143 = .ok (.invokevirtual 303, 3) := by decide +kernel
theorem d_M_readSelection_146 : decode b_M_readSelection 146 = .ok (.ifCond .ne 45, 3) := by decide +kernel
theorem d_M_readSelection_149 : decode b_M_readSelection 149 = .ok (.aload_n 0, 1) := by decide +kernel
theorem d_M_readSelection_150 : decode b_M_readSelection 150 = .ok (.invokevirtual 361, 3) := by decide +kernel
theorem d_M_readSelection_153 : decode b_M_readSelection 153 = .ok (.aload_n 0, 1) := by decide +kernel
theorem d_M_readSelection_154 : decode b_M_readSelection 154 = .ok (.getfield 93, 3) := by decide +kernel
theorem d_M_readSelection_157 : decode b_M_readSelection 157 = .ok (.iload_n 2, 1) := by decide +kernel
theorem d_M_readSelection_158 : decode b_M_readSelection 158 = .ok (.dup2, 1) := by decide +kernel
theorem d_M_readSelection_159 : decode b_M_readSelection 159 = .ok (.iaload, 1) := by decide +kernel
theorem d_M_readSelection_160 : decode b_M_readSelection 160 = .ok (.iconst 1, 1) := by decide +kernel
theorem d_M_readSelection_161 : decode b_M_readSelection 161 = .ok (.iadd, 1) := by decide +kernel
theorem d_M_readSelection_162 : decode b_M_readSelection 162 = .ok (.iastore, 1) := by decide +kernel
theorem d_M_readSelection_163 : decode b_M_readSelection 163 = .ok (.aload_n 0, 1) := by decide +kernel
theorem d_M_readSelection_164 : decode b_M_readSelection 164 = .ok (.getfield 93, 3) := by decide +kernel
theorem d_M_readSelection_167 : decode b_M_readSelection 167 = .ok (.iload_n 2, 1) := by decide +kernel
theorem d_M_readSelection_168 : decode b_M_readSelection 168 = .ok (.iaload, 1) := by decide +kernel
theorem d_M_readSelection_169 : decode b_M_readSelection 169 = .ok (.iconst 3, 1) := by decide +kernel
theorem d_M_readSelection_170 : decode b_M_readSelection 170 = .ok (.if_icmp .ge 16, 3) := by decide +kernel
theorem d_M_readSelection_173 : decode b_M_readSelection 173 = .ok (.aload_n 0, 1) := by decide +kernel
theorem d_M_readSelection_174 : decode b_M_readSelection 174 = .ok (.bipush 44, 2) := by decide +kernel
theorem d_M_readSelection_176 : decode b_M_readSelection 176 = .ok (.invokevirtual 333, 3) := by decide +kernel
theorem d_M_readSelection_179 : decode b_M_readSelection 179 = .ok (.ifCond .eq 7, 3) := by decide +kernel
theorem d_M_readSelection_182 : decode b_M_readSelection 182 = .ok (.iconst 1, 1) := by decide +kernel
theorem d_M_readSelection_183 : decode b_M_readSelection 183 = .ok (.goto 4, 3) := by decide +kernel
theorem d_M_readSelection_186 : decode b_M_readSelection 186 = .ok (.iconst 0, 1) := by decide +kernel
theorem d_M_readSelection_187 : decode b_M_readSelection 187 = .ok (.istore_n 3, 1) := by decide +kernel
theorem d_M_readSelection_188 : decode b_M_readSelection 188 = .ok (.goto (-50), 3) := by decide +kernel
theorem d_M_readSelection_191 : decode b_M_readSelection 191 = .ok (.aload_n 0, 1) := by decide +kernel
theorem d_M_readSelection_192 : decode b_M_readSelection 192 = .ok (.getfield 96, 3) := by decide +kernel
theorem d_M_readSelection_195 : decode b_M_readSelection 195 = .ok (.iload_n 2, 1) := by decide +kernel
theorem d_M_readSelection_196 : decode b_M_readSelection 196 = .ok (.iconst 0, 1) := by decide +kernel
theorem d_M_readSelection_197 : decode b_M_readSelection 197 = .ok (.iastore, 1) := by decide +kernel
theorem d_M_readSelection_198 : decode b_M_readSelection 198 = .ok (.aload_n 0, 1) := by decide +kernel
theorem d_M_readSelection_199 : decode b_M_readSelection 199 = .ok (.bipush 6, 2) := by decide +kernel
theorem d_M_readSelection_201 : decode b_M_readSelection 201 = .ok (.invokevirtual 320, 3) := by decide +kernel
theorem d_M_readSelection_204 : decode b_M_readSelection 204 = .ok (.ifCond .eq 91, 3) := by decide +kernel
theorem d_M_readSelection_207 : decode b_M_readSelection 207 = .ok (.iconst 1, 1) := by decide +kernel
theorem d_M_readSelection_208 : decode b_M_readSelection 208 = .ok (.istore_n 3, 1) := by decide +kernel
theorem d_M_readSelection_209 : decode b_M_readSelection 209 = .ok (.iload_n 3, 1) := by decide +kernel
theorem d_M_readSelection_210 : decode b_M_readSelection 210 = .ok (.ifCond .eq 85, 3) := by decide +kernel
theorem d_M_readSelection_213 : decode b_M_readSelection 213 = .ok (.aload_n 0, 1) := by decide +kernel
theorem d_M_readSelection_214 : decode b_M_readSelection 214 = .ok (.invokevirtual 303, 3) := by decide +kernel
theorem d_M_readSelection_217 : decode b_M_readSelection 217 = .ok (.ifCond .ne 78, 3) := by decide +kernel
theorem d_M_readSelection_220 : decode b_M_readSelection 220 = .ok (.aload_n 0, 1) := by decide +kernel
theorem d_M_readSelection_221 : decode b_M_readSelection 221 = .ok (.getfield 99, 3) := by decide +kernel
theorem d_M_readSelection_224 : decode b_M_readSelection 224 = .ok (.bipush 6, 2) := by decide +kernel
theorem d_M_readSelection_226 : decode b_M_readSelection 226 = .ok (.iload_n 2, 1) := by decide +kernel
theorem d_M_readSelection_227 : decode b_M_readSelection 227 = .ok (.imul, 1) := by decide +kernel
theorem d_M_readSelection_228 : decode b_M_readSelection 228 = .ok (.aload_n 0, 1) := by decide +kernel
theorem d_M_readSelection_229 : decode b_M_readSelection 229 = .ok (.getfield 96, 3) := by decide +kernel
theorem d_M_readSelection_232 : decode b_M_readSelection 232 = .ok (.iload_n 2, 1) := by decide +kernel
theorem d_M_readSelection_233 : decode b_M_readSelection 233 = .ok (.iaload, 1) := by decide +kernel
theorem d_M_readSelection_234 : decode b_M_readSelection 234 = .ok (.iadd, 1) := by decide +kernel
theorem d_M_readSelection_235 : decode b_M_readSelection 235 = .ok (.aload_n 0, 1) := by decide +kernel
theorem d_M_readSelection_236 : decode b_M_readSelection 236 = .ok (.bipush 8, 2) := by decide +kernel
theorem d_M_readSelection_238 : decode b_M_readSelection 238 = .ok (.invokevirtual 310, 3) := by decide +kernel
theorem d_M_readSelection_241 : decode b_M_readSelection 241 = .ok (.ifCond .eq 10, 3) := by decide +kernel
theorem d_M_readSelection_244 : decode b_M_readSelection 244 = .ok (.aload_n 0, 1) := by decide +kernel
theorem d_M_readSelection_245 : decode b_M_readSelection 245 = .ok (.invokevirtual 364, 3) := by decide +kernel
theorem d_M_readSelection_248 : decode b_M_readSelection 248 = .ok (.goto 7, 3) := by decide +kernel
theorem d_M_readSelection_251 : decode b_M_readSelection 251 = .ok (.aload_n 0, 1) := by decide +kernel
theorem d_M_readSelection_252 : decode b_M_readSelection 252 = .ok (.invokevirtual 368, 3) := by decide +kernel
theorem d_M_readSelection_255 : decode b_M_readSelection 255 = .ok (.iastore, 1) := by decide +kernel
theorem d_M_readSelection_256 : decode b_M_readSelection 256 = .ok (.aload_n 0, 1) := by decide +kernel
theorem d_M_readSelection_257 : decode b_M_readSelection 257 = .ok (.getfield 96, 3) := by decide +kernel
theorem d_M_readSelection_260 : decode b_M_readSelection 260 = .ok (.iload_n 2, 1) := by decide +kernel
theorem d_M_readSelection_261 : decode b_M_readSelection 261 = .ok (.dup2, 1) := by decide +kernel
theorem d_M_readSelection_262 : decode b_M_readSelection 262 = .ok (.iaload, 1) := by decide +kernel
theorem d_M_readSelection_263 : decode b_M_readSelection 263 = .ok (.iconst 1, 1) := by decide +kernel
theorem d_M_readSelection_264 : decode b_M_readSelection 264 = .ok (.iadd, 1) := by decide +kernel
theorem d_M_readSelection_265 : decode b_M_readSelection 265 = .ok (.iastore, 1) := by decide +kernel
theorem d_M_readSelection_266 : decode b_M_readSelection 266 = .ok (.aload_n 0, 1) := by decide +kernel
theorem d_M_readSelection_267 : decode b_M_readSelection 267 = .ok (.getfield 96, 3) := by decide +kernel
theorem d_M_readSelection_270 : decode b_M_readSelection 270 = .ok (.iload_n 2, 1) := by decide +kernel
theorem d_M_readSelection_271 : decode b_M_readSelection 271 = .ok (.iaload, 1) := by decide +kernel
theorem d_M_readSelection_272 : decode b_M_readSelection 272 = .ok (.bipush 6, 2) := by decide +kernel
theorem d_M_readSelection_274 : decode b_M_readSelection 274 = .ok (.if_icmp .ge 16, 3) := by decide +kernel
theorem d_M_readSelection_277 : decode b_M_readSelection 277 = .ok (.aload_n 0, 1) := by decide +kernel
theorem d_M_readSelection_278 : decode b_M_readSelection 278 = .ok (.bipush 7, 2) := by decide +kernel
theorem d_M_readSelection_280 : decode b_M_readSelection 280 = .ok (.invokevirtual 320, 3) := by decide +kernel
theorem d_M_readSelection_283 : decode b_M_readSelection 283 = .ok (.ifCond .eq 7, 3) := by decide +kernel
theorem d_M_readSelection_286 : decode b_M_readSelection 286 = .ok (.iconst 1, 1) := by decide +kernel
theorem d_M_readSelection_287 : decode b_M_readSelection 287 = .ok (.goto 4, 3) := by decide +kernel
theorem d_M_readSelection_290 : decode b_M_readSelection 290 = .ok (.iconst 0, 1) := by decide +kernel
theorem d_M_readSelection_291 : decode b_M_readSelection 291 = .ok (.istore_n 3, 1) := by decide +kernel
theorem d_M_readSelection_292 : decode b_M_readSelection 292 = .ok (.goto (-83), 3) := by decide +kernel
theorem d_M_readSelection_295 : decode b_M_readSelection 295 = .ok (.aload_n 0, 1) := by decide +kernel
theorem d_M_readSelection_296 : decode b_M_readSelection 296 = .ok (.dup, 1) := by decide +kernel
theorem d_M_readSelection_297 : decode b_M_readSelection 297 = .ok (.getfield 336, 3) := by decide +kernel
theorem d_M_readSelection_300 : decode b_M_readSelection 300 = .ok (.iconst 1, 1) := by decide +kernel
theorem d_M_readSelection_301 : decode b_M_readSelection 301 = .ok (.iadd, 1) := by decide +kernel
theorem d_M_readSelection_302 : decode b_M_readSelection 302 = .ok (.putfield 336, 3) := by decide +kernel
theorem d_M_readSelection_305 : decode b_M_readSelection 305 = .ok (.return_, 1) := by decide +kernel
theorem d_M_readTrails_0 : decode b_M_readTrails 0 = .ok (.aload_n 0, 1) := by decide +kernel
theorem d_M_readTrails_1 : decode b_M_readTrails 1 = .ok (.getfield 44, 3) := by decide +kernel
theorem d_M_readTrails_4 : decode b_M_readTrails 4 = .ok (.iload_n 1, 1) := by decide +kernel
theorem d_M_readTrails_5 : decode b_M_readTrails 5 = .ok (.iconst 0, 1) := by decide +kernel
theorem d_M_readTrails_6 : decode b_M_readTrails 6 = .ok (.iastore, 1) := by decide +kernel
theorem d_M_readTrails_7 : decode b_M_readTrails 7 = .ok (.aload_n 0, 1) := by decide +kernel
theorem d_M_readTrails_8 : decode b_M_readTrails 8 = .ok (.bipush 14, 2) := by decide +kernel
theorem d_M_readTrails_10 : decode b_M_readTrails 10 = .ok (.invokevirtual 320, 3) := by decide +kernel
theorem d_M_readTrails_13 : decode b_M_readTrails 13 = .ok (.ifCond .eq 84, 3) := by decide +kernel
theorem d_M_readTrails_16 : decode b_M_readTrails 16 = .ok (.aload_n 0, 1) := by decide +kernel
theorem d_M_readTrails_17 : decode b_M_readTrails 17 = .ok (.getfield 44, 3) := by decide +kernel
theorem d_M_readTrails_20 : decode b_M_readTrails 20 = .ok (.iload_n 1, 1) := by decide +kernel
theorem d_M_readTrails_21 : decode b_M_readTrails 21 = .ok (.aload_n 0, 1) := by decide +kernel
theorem d_M_readTrails_22 : decode b_M_readTrails 22 = .ok (.bipush 16, 2) := by decide +kernel
theorem d_M_readTrails_24 : decode b_M_readTrails 24 = .ok (.invokevirtual 310, 3) := by decide +kernel
theorem d_M_readTrails_27 : decode b_M_readTrails 27 = .ok (.ifCond .eq 7, 3) := by decide +kernel
theorem d_M_readTrails_30 : decode b_M_readTrails 30 = .ok (.iconst 2, 1) := by decide +kernel
theorem d_M_readTrails_31 : decode b_M_readTrails 31 = .ok (.goto 4, 3) := by decide +kernel
theorem d_M_readTrails_34 : decode b_M_readTrails 34 = .ok (.iconst 1, 1) := by decide +kernel
theorem d_M_readTrails_35 : decode b_M_readTrails 35 = .ok (.iastore, 1) := by decide +kernel
theorem d_M_readTrails_36 : decode b_M_readTrails 36 = .ok (.aload_n 0, 1) := by decide +kernel
theorem d_M_readTrails_37 : decode b_M_readTrails 37 = .ok (.bipush 16, 2) := by decide +kernel
theorem d_M_readTrails_39 : decode b_M_readTrails 39 = .ok (.invokevirtual 320, 3) := by decide +kernel
theorem d_M_readTrails_42 : decode b_M_readTrails 42 = .ok (.ifCond .ne 10, 3) := by decide +kernel
theorem d_M_readTrails_45 : decode b_M_readTrails 45 = .ok (.aload_n 0, 1) := by decide +kernel
theorem d_M_readTrails_46 : decode b_M_readTrails 46 = .ok (.bipush 15, 2) := by decide +kernel
theorem d_M_readTrails_48 : decode b_M_readTrails 48 = .ok (.invokevirtual 317, 3) := by decide +kernel
theorem d_M_readTrails_51 : decode b_M_readTrails 51 = .ok (.pop, 1) := by decide +kernel
theorem d_M_readTrails_52 : decode b_M_readTrails 52 = .ok (.aload_n 0, 1) := by decide +kernel
theorem d_M_readTrails_53 : decode b_M_readTrails 53 = .ok (.bipush 17, 2) := by decide +kernel
theorem d_M_readTrails_55 : decode b_M_readTrails 55 = .ok (.invokevirtual 317, 3) := by decide +kernel
theorem d_M_readTrails_58 : decode b_M_readTrails 58 = .ok (.pop, 1) := by decide +kernel
theorem d_M_readTrails_59 : decode b_M_readTrails 59 = .ok (.aload_n 0, 1) := by decide +kernel
theorem d_M_readTrails_60 : decode b_M_readTrails 60 = .ok (.bipush 18, 2) := by decide +kernel
theorem d_M_readTrails_62 : decode b_M_readTrails 62 = .ok (.invokevirtual 317, 3) := by decide +kernel
theorem d_M_readTrails_65 : decode b_M_readTrails 65 = .ok (.pop, 1) := by decide +kernel
theorem d_M_readTrails_66 : decode b_M_readTrails 66 = .ok (.aload_n 0, 1) := by decide +kernel
theorem d_M_readTrails_67 : decode b_M_readTrails 67 = .ok (.getfield 47, 3) := by decide +kernel
theorem d_M_readTrails_70 : decode b_M_readTrails 70 = .ok (.iload_n 1, 1) := by decide +kernel
theorem d_M_readTrails_71 : decode b_M_readTrails 71 = .ok (.aload_n 0, 1) := by decide +kernel
theorem d_M_readTrails_72 : decode b_M_readTrails 72 = .ok (.bipush 30, 2) := by decide +kernel
theorem d_M_readTrails_74 : decode b_M_readTrails 74 = .ok (.invokevirtual 317, 3) := by decide +kernel
theorem d_M_readTrails_77 : decode b_M_readTrails 77 = .ok (.iastore, 1) := by decide +kernel
theorem d_M_readTrails_78 : decode b_M_readTrails 78 = .ok (.aload_n 0, 1) := by decide +kernel
theorem d_M_readTrails_79 : decode b_M_readTrails 79 = .ok (.bipush 19, 2) := by decide +kernel
theorem d_M_readTrails_81 : decode b_M_readTrails 81 = .ok (.invokevirtual 317, 3) := by decide +kernel
theorem d_M_readTrails_84 : decode b_M_readTrails 84 = .ok (.pop, 1) := by decide +kernel
theorem d_M_readTrails_85 : decode b_M_readTrails 85 = .ok (.aload_n 0, 1) := by decide +kernel
theorem d_M_readTrails_86 : decode b_M_readTrails 86 = .ok (.getfield 50, 3) := by decide +kernel
theorem d_M_readTrails_89 : decode b_M_readTrails 89 = .ok (.iload_n 1, 1) := by decide +kernel
theorem d_M_readTrails_90 : decode b_M_readTrails 90 = .ok (.aload_n 0, 1) := by decide +kernel
theorem d_M_readTrails_91 : decode b_M_readTrails 91 = .ok (.bipush 30, 2) := by decide +kernel
theorem d_M_readTrails_93 : decode b_M_readTrails 93 = .ok (.invokevirtual 317, 3) := by decide +kernel
