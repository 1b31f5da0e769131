theorem d_Ch_init_0 : decode b_Ch_init 0 = .ok (.aload_n 0, 1) := by decide +kernel
theorem d_Ch_init_1 : decode b_Ch_init 1 = .ok (.invokespecial 3, 3) := by decide +kernel
theorem d_Ch_init_4 : decode b_Ch_init 4 = .ok (.return_, 1) := by decide +kernel
theorem d_Ch_knownSource_0 : decode b_Ch_knownSource 0 = .ok (.iconst 0, 1) := by decide +kernel
theorem d_Ch_knownSource_1 : decode b_Ch_knownSource 1 = .ok (.istore_n 1, 1) := by decide +kernel
theorem d_Ch_knownSource_2 : decode b_Ch_knownSource 2 = .ok (.iload_n 1, 1) := by decide +kernel
theorem d_Ch_knownSource_3 : decode b_Ch_knownSource 3 = .ok (.aload_n 0, 1) := by decide +kernel
theorem d_Ch_knownSource_4 : decode b_Ch_knownSource 4 = .ok (.getfield 161, 3) := by decide +kernel
theorem d_Ch_knownSource_7 : decode b_Ch_knownSource 7 = .ok (.getfield 164, 3) := by decide +kernel
theorem d_Ch_knownSource_10 : decode b_Ch_knownSource 10 = .ok (.if_icmp .ge 39, 3) := by decide +kernel
theorem d_Ch_knownSource_13 : decode b_Ch_knownSource 13 = .ok (.aload_n 0, 1) := by decide +kernel
theorem d_Ch_knownSource_14 : decode b_Ch_knownSource 14 = .ok (.getfield 161, 3) := by decide +kernel
theorem d_Ch_knownSource_17 : decode b_Ch_knownSource 17 = .ok (.getfield 167, 3) := by decide +kernel
theorem d_Ch_knownSource_20 : decode b_Ch_knownSource 20 = .ok (.iload_n 1, 1) := by decide +kernel
theorem d_Ch_knownSource_21 : decode b_Ch_knownSource 21 = .ok (.aaload, 1) := by decide +kernel
theorem d_Ch_knownSource_22 : decode b_Ch_knownSource 22 = .ok (.getfield 170, 3) := by decide +kernel
theorem d_Ch_knownSource_25 : decode b_Ch_knownSource 25 = .ok (.aload_n 0, 1) := by decide +kernel
theorem d_Ch_knownSource_26 : decode b_Ch_knownSource 26 = .ok (.getfield 173, 3) := by decide +kernel
theorem d_Ch_knownSource_29 : decode b_Ch_knownSource 29 = .ok (.lcmp, 1) := by decide +kernel
theorem d_Ch_knownSource_30 : decode b_Ch_knownSource 30 = .ok (.ifCond .ne 13, 3) := by decide +kernel
theorem d_Ch_knownSource_33 : decode b_Ch_knownSource 33 = .ok (.aload_n 0, 1) := by decide +kernel
theorem d_Ch_knownSource_34 : decode b_Ch_knownSource 34 = .ok (.getfield 161, 3) := by decide +kernel
theorem d_Ch_knownSource_37 : decode b_Ch_knownSource 37 = .ok (.getfield 167, 3) := by decide +kernel
theorem d_Ch_knownSource_40 : decode b_Ch_knownSource 40 = .ok (.iload_n 1, 1) := by decide +kernel
theorem d_Ch_knownSource_41 : decode b_Ch_knownSource 41 = .ok (.aaload, 1) := by decide +kernel
theorem d_Ch_knownSource_42 : decode b_Ch_knownSource 42 = .ok (.areturn, 1) := by decide +kernel
theorem d_Ch_knownSource_43 : decode b_Ch_knownSource 43 = .ok (.iinc 1 1, 3) := by decide +kernel
theorem d_Ch_knownSource_46 : decode b_Ch_knownSource 46 = .ok (.goto (-44), 3) := by decide +kernel
theorem d_Ch_knownSource_49 : decode b_Ch_knownSource 49 = .ok (.aload_n 0, 1) := by decide +kernel
theorem d_Ch_knownSource_50 : decode b_Ch_knownSource 50 = .ok (.getfield 174, 3) := by decide +kernel
theorem d_Ch_knownSource_53 : decode b_Ch_knownSource 53 = .ok (.ifnull 31, 3) := by decide +kernel
theorem d_Ch_knownSource_56 : decode b_Ch_knownSource 56 = .ok (.aload_n 0, 1) := by decide +kernel
theorem d_Ch_knownSource_57 : decode b_Ch_knownSource 57 = .ok (.getfield 174, 3) := by decide +kernel
theorem d_Ch_knownSource_60 : decode b_Ch_knownSource 60 = .ok (.getfield 178, 3) := by decide +kernel
theorem d_Ch_knownSource_63 : decode b_Ch_knownSource 63 = .ok (.ifnull 21, 3) := by decide +kernel
theorem d_Ch_knownSource_66 : decode b_Ch_knownSource 66 = .ok (.aload_n 0, 1) := by decide +kernel
theorem d_Ch_knownSource_67 : decode b_Ch_knownSource 67 = .ok (.getfield 174, 3) := by decide +kernel
theorem d_Ch_knownSource_70 : decode b_Ch_knownSource 70 = .ok (.getfield 178, 3) := by decide +kernel
theorem d_Ch_knownSource_73 : decode b_Ch_knownSource 73 = .ok (.getfield 170, 3) := by decide +kernel
theorem d_Ch_knownSource_76 : decode b_Ch_knownSource 76 = .ok (.aload_n 0, 1) := by decide +kernel
theorem d_Ch_knownSource_77 : decode b_Ch_knownSource 77 = .ok (.getfield 173, 3) := by decide +kernel
theorem d_Ch_knownSource_80 : decode b_Ch_knownSource 80 = .ok (.lcmp, 1) := by decide +kernel
theorem d_Ch_knownSource_81 : decode b_Ch_knownSource 81 = .ok (.ifCond .eq 5, 3) := by decide +kernel
theorem d_Ch_knownSource_84 : decode b_Ch_knownSource 84 = .ok (.aconst_null, 1) := by decide +kernel
theorem d_Ch_knownSource_85 : decode b_Ch_knownSource 85 = .ok (.areturn, 1) := by decide +kernel
theorem d_Ch_knownSource_86 : decode b_Ch_knownSource 86 = .ok (.aload_n 0, 1) := by decide +kernel
theorem d_Ch_knownSource_87 : decode b_Ch_knownSource 87 = .ok (.getfield 174, 3) := by decide +kernel
theorem d_Ch_knownSource_90 : decode b_Ch_knownSource 90 = .ok (.getfield 178, 3) := by decide +kernel
theorem d_Ch_knownSource_93 : decode b_Ch_knownSource 93 = .ok (.areturn, 1) := by decide +kernel
theorem d_Ch_indexIn_0 : decode b_Ch_indexIn 0 = .ok (.aload_n 1, 1) := by decide +kernel
theorem d_Ch_indexIn_1 : decode b_Ch_indexIn 1 = .ok (.getfield 122, 3) := by decide +kernel
theorem d_Ch_indexIn_4 : decode b_Ch_indexIn 4 = .ok (.ifCond .lt 50, 3) := by decide +kernel
theorem d_Ch_indexIn_7 : decode b_Ch_indexIn 7 = .ok (.aload_n 0, 1) := by decide +kernel
theorem d_Ch_indexIn_8 : decode b_Ch_indexIn 8 = .ok (.getfield 9, 3) := by decide +kernel
theorem d_Ch_indexIn_11 : decode b_Ch_indexIn 11 = .ok (.getfield 84, 3) := by decide +kernel
theorem d_Ch_indexIn_14 : decode b_Ch_indexIn 14 = .ok (.aload_n 1, 1) := by decide +kernel
theorem d_Ch_indexIn_15 : decode b_Ch_indexIn 15 = .ok (.getfield 122, 3) := by decide +kernel
theorem d_Ch_indexIn_18 : decode b_Ch_indexIn 18 = .ok (.aaload, 1) := by decide +kernel
theorem d_Ch_indexIn_19 : decode b_Ch_indexIn 19 = .ok (.astore 4, 2) := by decide +kernel
theorem d_Ch_indexIn_21 : decode b_Ch_indexIn 21 = .ok (.iconst 0, 1) := by decide +kernel
theorem d_Ch_indexIn_22 : decode b_Ch_indexIn 22 = .ok (.istore 5, 2) := by decide +kernel
theorem d_Ch_indexIn_24 : decode b_Ch_indexIn 24 = .ok (.iload 5, 2) := by decide +kernel
theorem d_Ch_indexIn_26 : decode b_Ch_indexIn 26 = .ok (.iconst 4, 1) := by decide +kernel
theorem d_Ch_indexIn_27 : decode b_Ch_indexIn 27 = .ok (.if_icmp .gt 25, 3) := by decide +kernel
theorem d_Ch_indexIn_30 : decode b_Ch_indexIn 30 = .ok (.aload 4, 2) := by decide +kernel
theorem d_Ch_indexIn_32 : decode b_Ch_indexIn 32 = .ok (.getfield 181, 3) := by decide +kernel
theorem d_Ch_indexIn_35 : decode b_Ch_indexIn 35 = .ok (.iload 5, 2) := by decide +kernel
theorem d_Ch_indexIn_37 : decode b_Ch_indexIn 37 = .ok (.laload, 1) := by decide +kernel
theorem d_Ch_indexIn_38 : decode b_Ch_indexIn 38 = .ok (.lload_n 2, 1) := by decide +kernel
theorem d_Ch_indexIn_39 : decode b_Ch_indexIn 39 = .ok (.lcmp, 1) := by decide +kernel
theorem d_Ch_indexIn_40 : decode b_Ch_indexIn 40 = .ok (.ifCond .ne 6, 3) := by decide +kernel
theorem d_Ch_indexIn_43 : decode b_Ch_indexIn 43 = .ok (.iload 5, 2) := by decide +kernel
theorem d_Ch_indexIn_45 : decode b_Ch_indexIn 45 = .ok (.ireturn, 1) := by decide +kernel
theorem d_Ch_indexIn_46 : decode b_Ch_indexIn 46 = .ok (.iinc 5 1, 3) := by decide +kernel
theorem d_Ch_indexIn_49 : decode b_Ch_indexIn 49 = .ok (.goto (-25), 3) := by decide +kernel
theorem d_Ch_indexIn_52 : decode b_Ch_indexIn 52 = .ok (.iconst (-1), 1) := by decide +kernel
theorem d_Ch_indexIn_53 : decode b_Ch_indexIn 53 = .ok (.ireturn, 1) := by decide +kernel
theorem d_Ch_indexIn_54 : decode b_Ch_indexIn 54 = .ok (.lload_n 2, 1) := by decide +kernel
theorem d_Ch_indexIn_55 : decode b_Ch_indexIn 55 = .ok (.ldc2_w 185, 3) := by decide +kernel
theorem d_Ch_indexIn_58 : decode b_Ch_indexIn 58 = .ok (.lsub, 1) := by decide +kernel
theorem d_Ch_indexIn_59 : decode b_Ch_indexIn 59 = .ok (.lstore 4, 2) := by decide +kernel
theorem d_Ch_indexIn_61 : decode b_Ch_indexIn 61 = .ok (.aload_n 1, 1) := by decide +kernel
theorem d_Ch_indexIn_62 : decode b_Ch_indexIn 62 = .ok (.getfield 127, 3) := by decide +kernel
theorem d_Ch_indexIn_65 : decode b_Ch_indexIn 65 = .ok (.ifCond .lt 33, 3) := by decide +kernel
theorem d_Ch_indexIn_68 : decode b_Ch_indexIn 68 = .ok (.lload 4, 2) := by decide +kernel
theorem d_Ch_indexIn_70 : decode b_Ch_indexIn 70 = .ok (.lconst 0, 1) := by decide +kernel
theorem d_Ch_indexIn_71 : decode b_Ch_indexIn 71 = .ok (.lcmp, 1) := by decide +kernel
theorem d_Ch_indexIn_72 : decode b_Ch_indexIn 72 = .ok (.ifCond .lt 26, 3) := by decide +kernel
theorem d_Ch_indexIn_75 : decode b_Ch_indexIn 75 = .ok (.lload 4, 2) := by decide +kernel
theorem d_Ch_indexIn_77 : decode b_Ch_indexIn 77 = .ok (.aload_n 0, 1) := by decide +kernel
theorem d_Ch_indexIn_78 : decode b_Ch_indexIn 78 = .ok (.getfield 15, 3) := by decide +kernel
theorem d_Ch_indexIn_81 : decode b_Ch_indexIn 81 = .ok (.aload_n 1, 1) := by decide +kernel
theorem d_Ch_indexIn_82 : decode b_Ch_indexIn 82 = .ok (.getfield 127, 3) := by decide +kernel
theorem d_Ch_indexIn_85 : decode b_Ch_indexIn 85 = .ok (.aaload, 1) := by decide +kernel
theorem d_Ch_indexIn_86 : decode b_Ch_indexIn 86 = .ok (.getfield 187, 3) := by decide +kernel
theorem d_Ch_indexIn_89 : decode b_Ch_indexIn 89 = .ok (.i2l, 1) := by decide +kernel
theorem d_Ch_indexIn_90 : decode b_Ch_indexIn 90 = .ok (.lcmp, 1) := by decide +kernel
theorem d_Ch_indexIn_91 : decode b_Ch_indexIn 91 = .ok (.ifCond .ge 7, 3) := by decide +kernel
theorem d_Ch_indexIn_94 : decode b_Ch_indexIn 94 = .ok (.iconst 1, 1) := by decide +kernel
theorem d_Ch_indexIn_95 : decode b_Ch_indexIn 95 = .ok (.goto 4, 3) := by decide +kernel
theorem d_Ch_indexIn_98 : decode b_Ch_indexIn 98 = .ok (.iconst 0, 1) := by decide +kernel
theorem d_Ch_indexIn_99 : decode b_Ch_indexIn 99 = .ok (.istore 6, 2) := by decide +kernel
theorem d_Ch_indexIn_101 : decode b_Ch_indexIn 101 = .ok (.iload 6, 2) := by decide +kernel
theorem d_Ch_indexIn_103 : decode b_Ch_indexIn 103 = .ok (.ifCond .eq 9, 3) := by decide +kernel
theorem d_Ch_indexIn_106 : decode b_Ch_indexIn 106 = .ok (.lload 4, 2) := by decide +kernel
theorem d_Ch_indexIn_108 : decode b_Ch_indexIn 108 = .ok (.l2i, 1) := by decide +kernel
theorem d_Ch_indexIn_109 : decode b_Ch_indexIn 109 = .ok (.goto 4, 3) := by decide +kernel
theorem d_Ch_indexIn_112 : decode b_Ch_indexIn 112 = .ok (.iconst (-1), 1) := by decide +kernel
theorem d_Ch_indexIn_113 : decode b_Ch_indexIn 113 = .ok (.ireturn, 1) := by decide +kernel
theorem d_Ch_nextReady_0 : decode b_Ch_nextReady 0 = .ok (.iconst 0, 1) := by decide +kernel
theorem d_Ch_nextReady_1 : decode b_Ch_nextReady 1 = .ok (.istore_n 2, 1) := by decide +kernel
theorem d_Ch_nextReady_2 : decode b_Ch_nextReady 2 = .ok (.iload_n 2, 1) := by decide +kernel
theorem d_Ch_nextReady_3 : decode b_Ch_nextReady 3 = .ok (.aload_n 0, 1) := by decide +kernel
theorem d_Ch_nextReady_4 : decode b_Ch_nextReady 4 = .ok (.getfield 9, 3) := by decide +kernel
theorem d_Ch_nextReady_7 : decode b_Ch_nextReady 7 = .ok (.getfield 81, 3) := by decide +kernel
theorem d_Ch_nextReady_10 : decode b_Ch_nextReady 10 = .ok (.if_icmp .ge 47, 3) := by decide +kernel
theorem d_Ch_nextReady_13 : decode b_Ch_nextReady 13 = .ok (.aload_n 0, 1) := by decide +kernel
theorem d_Ch_nextReady_14 : decode b_Ch_nextReady 14 = .ok (.getfield 9, 3) := by decide +kernel
theorem d_Ch_nextReady_17 : decode b_Ch_nextReady 17 = .ok (.getfield 84, 3) := by decide +kernel
theorem d_Ch_nextReady_20 : decode b_Ch_nextReady 20 = .ok (.iload_n 2, 1) := by decide +kernel
theorem d_Ch_nextReady_21 : decode b_Ch_nextReady 21 = .ok (.aaload, 1) := by decide +kernel
theorem d_Ch_nextReady_22 : decode b_Ch_nextReady 22 = .ok (.astore_n 3, 1) := by decide +kernel
theorem d_Ch_nextReady_23 : decode b_Ch_nextReady 23 = .ok (.iload_n 1, 1) := by decide +kernel
theorem d_Ch_nextReady_24 : decode b_Ch_nextReady 24 = .ok (.iload_n 2, 1) := by decide +kernel
theorem d_Ch_nextReady_25 : decode b_Ch_nextReady 25 = .ok (.ishr, 1) := by decide +kernel
theorem d_Ch_nextReady_26 : decode b_Ch_nextReady 26 = .ok (.iconst 1, 1) := by decide +kernel
theorem d_Ch_nextReady_27 : decode b_Ch_nextReady 27 = .ok (.iand, 1) := by decide +kernel
theorem d_Ch_nextReady_28 : decode b_Ch_nextReady 28 = .ok (.ifCond .ne 23, 3) := by decide +kernel
theorem d_Ch_nextReady_31 : decode b_Ch_nextReady 31 = .ok (.aload_n 3, 1) := by decide +kernel
theorem d_Ch_nextReady_32 : decode b_Ch_nextReady 32 = .ok (.getfield 195, 3) := by decide +kernel
theorem d_Ch_nextReady_35 : decode b_Ch_nextReady 35 = .ok (.aload_n 3, 1) := by decide +kernel
theorem d_Ch_nextReady_36 : decode b_Ch_nextReady 36 = .ok (.getfield 202, 3) := by decide +kernel
theorem d_Ch_nextReady_39 : decode b_Ch_nextReady 39 = .ok (.iconst (-1), 1) := by decide +kernel
theorem d_Ch_nextReady_40 : decode b_Ch_nextReady 40 = .ok (.ixor, 1) := by decide +kernel
theorem d_Ch_nextReady_41 : decode b_Ch_nextReady 41 = .ok (.iand, 1) := by decide +kernel
theorem d_Ch_nextReady_42 : decode b_Ch_nextReady 42 = .ok (.iload_n 1, 1) := by decide +kernel
theorem d_Ch_nextReady_43 : decode b_Ch_nextReady 43 = .ok (.iconst (-1), 1) := by decide +kernel
theorem d_Ch_nextReady_44 : decode b_Ch_nextReady 44 = .ok (.ixor, 1) := by decide +kernel
theorem d_Ch_nextReady_45 : decode b_Ch_nextReady 45 = .ok (.iand, 1) := by decide +kernel
theorem d_Ch_nextReady_46 : decode b_Ch_nextReady 46 = .ok (.ifCond .ne 5, 3) := by decide +kernel
theorem d_Ch_nextReady_49 : decode b_Ch_nextReady 49 = .ok (.iload_n 2, 1) := by decide +kernel
theorem d_Ch_nextReady_50 : decode b_Ch_nextReady 50 = .ok (.ireturn, 1) := by decide +kernel
theorem d_Ch_nextReady_51 : decode b_Ch_nextReady 51 = .ok (.iinc 2 1, 3) := by decide +kernel
theorem d_Ch_nextReady_54 : decode b_Ch_nextReady 54 = .ok (.goto (-52), 3) := by decide +kernel
theorem d_Ch_nextReady_57 : decode b_Ch_nextReady 57 = .ok (.iconst (-1), 1) := by decide +kernel
theorem d_Ch_nextReady_58 : decode b_Ch_nextReady 58 = .ok (.ireturn, 1) := by decide +kernel
theorem d_Ch_orderComponents_0 : decode b_Ch_orderComponents 0 = .ok (.iconst 0, 1) := by decide +kernel
theorem d_Ch_orderComponents_1 : decode b_Ch_orderComponents 1 = .ok (.istore_n 1, 1) := by decide +kernel
theorem d_Ch_orderComponents_2 : decode b_Ch_orderComponents 2 = .ok (.iconst 0, 1) := by decide +kernel
theorem d_Ch_orderComponents_3 : decode b_Ch_orderComponents 3 = .ok (.istore_n 2, 1) := by decide +kernel
theorem d_Ch_orderComponents_4 : decode b_Ch_orderComponents 4 = .ok (.iload_n 2, 1) := by decide +kernel
theorem d_Ch_orderComponents_5 : decode b_Ch_orderComponents 5 = .ok (.aload_n 0, 1) := by decide +kernel
theorem d_Ch_orderComponents_6 : decode b_Ch_orderComponents 6 = .ok (.getfield 9, 3) := by decide +kernel
theorem d_Ch_orderComponents_9 : decode b_Ch_orderComponents 9 = .ok (.getfield 81, 3) := by decide +kernel
theorem d_Ch_orderComponents_12 : decode b_Ch_orderComponents 12 = .ok (.if_icmp .ge 94, 3) := by decide +kernel
theorem d_Ch_orderComponents_15 : decode b_Ch_orderComponents 15 = .ok (.aload_n 0, 1) := by decide +kernel
theorem d_Ch_orderComponents_16 : decode b_Ch_orderComponents 16 = .ok (.iload_n 1, 1) := by decide +kernel
theorem d_Ch_orderComponents_17 : decode b_Ch_orderComponents 17 = .ok (.invokevirtual 205, 3) := by decide +kernel
theorem d_Ch_orderComponents_20 : decode b_Ch_orderComponents 20 = .ok (.istore_n 3, 1) := by decide +kernel
theorem d_Ch_orderComponents_21 : decode b_Ch_orderComponents 21 = .ok (.iload_n 3, 1) := by decide +kernel
theorem d_Ch_orderComponents_22 : decode b_Ch_orderComponents 22 = .ok (.ifCond .ge 4, 3) := by decide +kernel
theorem d_Ch_orderComponents_25 : decode b_Ch_orderComponents 25 = .ok (.return_, 1) := by decide +kernel
theorem d_Ch_orderComponents_26 : decode b_Ch_orderComponents 26 = .ok (.aload_n 0, 1) := by decide +kernel
theorem d_Ch_orderComponents_27 : decode b_Ch_orderComponents 27 = .ok (.getfield 9, 3) := by decide +kernel
theorem d_Ch_orderComponents_30 : decode b_Ch_orderComponents 30 = .ok (.getfield 84, 3) := by decide +kernel
theorem d_Ch_orderComponents_33 : decode b_Ch_orderComponents 33 = .ok (.iload_n 3, 1) := by decide +kernel
theorem d_Ch_orderComponents_34 : decode b_Ch_orderComponents 34 = .ok (.aaload, 1) := by decide +kernel
theorem d_Ch_orderComponents_35 : decode b_Ch_orderComponents 35 = .ok (.getfield 202, 3) := by decide +kernel
theorem d_Ch_orderComponents_38 : decode b_Ch_orderComponents 38 = .ok (.istore 4, 2) := by decide +kernel
theorem d_Ch_orderComponents_40 : decode b_Ch_orderComponents 40 = .ok (.iconst 0, 1) := by decide +kernel
theorem d_Ch_orderComponents_41 : decode b_Ch_orderComponents 41 = .ok (.istore 5, 2) := by decide +kernel
theorem d_Ch_orderComponents_43 : decode b_Ch_orderComponents 43 = .ok (.iload 5, 2) := by decide +kernel
theorem d_Ch_orderComponents_45 : decode b_Ch_orderComponents 45 = .ok (.aload_n 0, 1) := by decide +kernel
theorem d_Ch_orderComponents_46 : decode b_Ch_orderComponents 46 = .ok (.getfield 9, 3) := by decide +kernel
theorem d_Ch_orderComponents_49 : decode b_Ch_orderComponents 49 = .ok (.getfield 81, 3) := by decide +kernel
theorem d_Ch_orderComponents_52 : decode b_Ch_orderComponents 52 = .ok (.if_icmp .ge 33, 3) := by decide +kernel
theorem d_Ch_orderComponents_55 : decode b_Ch_orderComponents 55 = .ok (.iload 4, 2) := by decide +kernel
theorem d_Ch_orderComponents_57 : decode b_Ch_orderComponents 57 = .ok (.iload 5, 2) := by decide +kernel
theorem d_Ch_orderComponents_59 : decode b_Ch_orderComponents 59 = .ok (.ishr, 1) := by decide +kernel
theorem d_Ch_orderComponents_60 : decode b_Ch_orderComponents 60 = .ok (.iconst 1, 1) := by decide +kernel
theorem d_Ch_orderComponents_61 : decode b_Ch_orderComponents 61 = .ok (.iand, 1) := by decide +kernel
theorem d_Ch_orderComponents_62 : decode b_Ch_orderComponents 62 = .ok (.ifCond .eq 17, 3) := by decide +kernel
theorem d_Ch_orderComponents_65 : decode b_Ch_orderComponents 65 = .ok (.aload_n 0, 1) := by decide +kernel
theorem d_Ch_orderComponents_66 : decode b_Ch_orderComponents 66 = .ok (.getfield 9, 3) := by decide +kernel
theorem d_Ch_orderComponents_69 : decode b_Ch_orderComponents 69 = .ok (.getfield 84, 3) := by decide +kernel
theorem d_Ch_orderComponents_72 : decode b_Ch_orderComponents 72 = .ok (.iload 5, 2) := by decide +kernel
theorem d_Ch_orderComponents_74 : decode b_Ch_orderComponents 74 = .ok (.aaload, 1) := by decide +kernel
theorem d_Ch_orderComponents_75 : decode b_Ch_orderComponents 75 = .ok (.iload_n 2, 1) := by decide +kernel
theorem d_Ch_orderComponents_76 : decode b_Ch_orderComponents 76 = .ok (.putfield 208, 3) := by decide +kernel
theorem d_Ch_orderComponents_79 : decode b_Ch_orderComponents 79 = .ok (.iinc 5 1, 3) := by decide +kernel
theorem d_Ch_orderComponents_82 : decode b_Ch_orderComponents 82 = .ok (.goto (-39), 3) := by decide +kernel
theorem d_Ch_orderComponents_85 : decode b_Ch_orderComponents 85 = .ok (.iload_n 1, 1) := by decide +kernel
theorem d_Ch_orderComponents_86 : decode b_Ch_orderComponents 86 = .ok (.iload 4, 2) := by decide +kernel
theorem d_Ch_orderComponents_88 : decode b_Ch_orderComponents 88 = .ok (.ior, 1) := by decide +kernel
theorem d_Ch_orderComponents_89 : decode b_Ch_orderComponents 89 = .ok (.istore_n 1, 1) := by decide +kernel
theorem d_Ch_orderComponents_90 : decode b_Ch_orderComponents 90 = .ok (.aload_n 0, 1) := by decide +kernel
theorem d_Ch_orderComponents_91 : decode b_Ch_orderComponents 91 = .ok (.getfield 9, 3) := by decide +kernel
theorem d_Ch_orderComponents_94 : decode b_Ch_orderComponents 94 = .ok (.iload_n 2, 1) := by decide +kernel
theorem d_Ch_orderComponents_95 : decode b_Ch_orderComponents 95 = .ok (.iconst 1, 1) := by decide +kernel
theorem d_Ch_orderComponents_96 : decode b_Ch_orderComponents 96 = .ok (.iadd, 1) := by decide +kernel
theorem d_Ch_orderComponents_97 : decode b_Ch_orderComponents 97 = .ok (.putfield 211, 3) := by decide +kernel
theorem d_Ch_orderComponents_100 : decode b_Ch_orderComponents 100 = .ok (.iinc 2 1, 3) := by decide +kernel
theorem d_Ch_orderComponents_103 : decode b_Ch_orderComponents 103 = .ok (.goto (-99), 3) := by decide +kernel
theorem d_Ch_orderComponents_106 : decode b_Ch_orderComponents 106 = .ok (.return_, 1) := by decide +kernel
theorem d_Ch_namesOwnComponent_0 : decode b_Ch_namesOwnComponent 0 = .ok (.aload_n 1, 1) := by decide +kernel
theorem d_Ch_namesOwnComponent_1 : decode b_Ch_namesOwnComponent 1 = .ok (.getfield 191, 3) := by decide +kernel
theorem d_Ch_namesOwnComponent_4 : decode b_Ch_namesOwnComponent 4 = .ok (.getfield 192, 3) := by decide +kernel
theorem d_Ch_namesOwnComponent_7 : decode b_Ch_namesOwnComponent 7 = .ok (.istore_n 2, 1) := by decide +kernel
theorem d_Ch_namesOwnComponent_8 : decode b_Ch_namesOwnComponent 8 = .ok (.aload_n 1, 1) := by decide +kernel
theorem d_Ch_namesOwnComponent_9 : decode b_Ch_namesOwnComponent 9 = .ok (.getfield 122, 3) := by decide +kernel
theorem d_Ch_namesOwnComponent_12 : decode b_Ch_namesOwnComponent 12 = .ok (.ifCond .lt 63, 3) := by decide +kernel
theorem d_Ch_namesOwnComponent_15 : decode b_Ch_namesOwnComponent 15 = .ok (.iload_n 2, 1) := by decide +kernel
theorem d_Ch_namesOwnComponent_16 : decode b_Ch_namesOwnComponent 16 = .ok (.aload_n 0, 1) := by decide +kernel
theorem d_Ch_namesOwnComponent_17 : decode b_Ch_namesOwnComponent 17 = .ok (.getfield 9, 3) := by decide +kernel
theorem d_Ch_namesOwnComponent_20 : decode b_Ch_namesOwnComponent 20 = .ok (.getfield 81, 3) := by decide +kernel
theorem d_Ch_namesOwnComponent_23 : decode b_Ch_namesOwnComponent 23 = .ok (.if_icmp .ge 52, 3) := by decide +kernel
theorem d_Ch_namesOwnComponent_26 : decode b_Ch_namesOwnComponent 26 = .ok (.aload_n 0, 1) := by decide +kernel
theorem d_Ch_namesOwnComponent_27 : decode b_Ch_namesOwnComponent 27 = .ok (.getfield 9, 3) := by decide +kernel
theorem d_Ch_namesOwnComponent_30 : decode b_Ch_namesOwnComponent 30 = .ok (.getfield 84, 3) := by decide +kernel
theorem d_Ch_namesOwnComponent_33 : decode b_Ch_namesOwnComponent 33 = .ok (.iload_n 2, 1) := by decide +kernel
theorem d_Ch_namesOwnComponent_34 : decode b_Ch_namesOwnComponent 34 = .ok (.aaload, 1) := by decide +kernel
theorem d_Ch_namesOwnComponent_35 : decode b_Ch_namesOwnComponent 35 = .ok (.getfield 198, 3) := by decide +kernel
theorem d_Ch_namesOwnComponent_38 : decode b_Ch_namesOwnComponent 38 = .ok (.ifCond .eq 37, 3) := by decide +kernel
theorem d_Ch_namesOwnComponent_41 : decode b_Ch_namesOwnComponent 41 = .ok (.aload_n 0, 1) := by decide +kernel
theorem d_Ch_namesOwnComponent_42 : decode b_Ch_namesOwnComponent 42 = .ok (.getfield 9, 3) := by decide +kernel
theorem d_Ch_namesOwnComponent_45 : decode b_Ch_namesOwnComponent 45 = .ok (.getfield 84, 3) := by decide +kernel
theorem d_Ch_namesOwnComponent_48 : decode b_Ch_namesOwnComponent 48 = .ok (.iload_n 2, 1) := by decide +kernel
theorem d_Ch_namesOwnComponent_49 : decode b_Ch_namesOwnComponent 49 = .ok (.aaload, 1) := by decide +kernel
theorem d_Ch_namesOwnComponent_50 : decode b_Ch_namesOwnComponent 50 = .ok (.getfield 208, 3) := by decide +kernel
theorem d_Ch_namesOwnComponent_53 : decode b_Ch_namesOwnComponent 53 = .ok (.aload_n 0, 1) := by decide +kernel
theorem d_Ch_namesOwnComponent_54 : decode b_Ch_namesOwnComponent 54 = .ok (.getfield 9, 3) := by decide +kernel
theorem d_Ch_namesOwnComponent_57 : decode b_Ch_namesOwnComponent 57 = .ok (.getfield 84, 3) := by decide +kernel
theorem d_Ch_namesOwnComponent_60 : decode b_Ch_namesOwnComponent 60 = .ok (.aload_n 1, 1) := by decide +kernel
theorem d_Ch_namesOwnComponent_61 : decode b_Ch_namesOwnComponent 61 = .ok (.getfield 122, 3) := by decide +kernel
theorem d_Ch_namesOwnComponent_64 : decode b_Ch_namesOwnComponent 64 = .ok (.aaload, 1) := by decide +kernel
theorem d_Ch_namesOwnComponent_65 : decode b_Ch_namesOwnComponent 65 = .ok (.getfield 208, 3) := by decide +kernel
theorem d_Ch_namesOwnComponent_68 : decode b_Ch_namesOwnComponent 68 = .ok (.if_icmp .ne 7, 3) := by decide +kernel
theorem d_Ch_namesOwnComponent_71 : decode b_Ch_namesOwnComponent 71 = .ok (.iconst 1, 1) := by decide +kernel
theorem d_Ch_namesOwnComponent_72 : decode b_Ch_namesOwnComponent 72 = .ok (.goto 4, 3) := by decide +kernel
theorem d_Ch_namesOwnComponent_75 : decode b_Ch_namesOwnComponent 75 = .ok (.iconst 0, 1) := by decide +kernel
theorem d_Ch_namesOwnComponent_76 : decode b_Ch_namesOwnComponent 76 = .ok (.ireturn, 1) := by decide +kernel
theorem d_Ch_note_0 : decode b_Ch_note 0 = .ok (.iload_n 1, 1) := by decide +kernel
theorem d_Ch_note_1 : decode b_Ch_note 1 = .ok (.ifCond .eq 16, 3) := by decide +kernel
theorem d_Ch_note_4 : decode b_Ch_note 4 = .ok (.iload_n 2, 1) := by decide +kernel
theorem d_Ch_note_5 : decode b_Ch_note 5 = .ok (.aload_n 0, 1) := by decide +kernel
theorem d_Ch_note_6 : decode b_Ch_note 6 = .ok (.getfield 38, 3) := by decide +kernel
theorem d_Ch_note_9 : decode b_Ch_note 9 = .ok (.if_icmp .ge 8, 3) := by decide +kernel
theorem d_Ch_note_12 : decode b_Ch_note 12 = .ok (.aload_n 0, 1) := by decide +kernel
theorem d_Ch_note_13 : decode b_Ch_note 13 = .ok (.iload_n 2, 1) := by decide +kernel
theorem d_Ch_note_14 : decode b_Ch_note 14 = .ok (.putfield 38, 3) := by decide +kernel
theorem d_Ch_note_17 : decode b_Ch_note 17 = .ok (.return_, 1) := by decide +kernel
theorem d_Ch_lookAtWidths_0 : decode b_Ch_lookAtWidths 0 = .ok (.iconst 0, 1) := by decide +kernel
theorem d_Ch_lookAtWidths_1 : decode b_Ch_lookAtWidths 1 = .ok (.istore_n 2, 1) := by decide +kernel
theorem d_Ch_lookAtWidths_2 : decode b_Ch_lookAtWidths 2 = .ok (.iload_n 2, 1) := by decide +kernel
theorem d_Ch_lookAtWidths_3 : decode b_Ch_lookAtWidths 3 = .ok (.aload_n 1, 1) := by decide +kernel
theorem d_Ch_lookAtWidths_4 : decode b_Ch_lookAtWidths 4 = .ok (.getfield 253, 3) := by decide +kernel
theorem d_Ch_lookAtWidths_7 : decode b_Ch_lookAtWidths 7 = .ok (.if_icmp .ge 43, 3) := by decide +kernel
theorem d_Ch_lookAtWidths_10 : decode b_Ch_lookAtWidths 10 = .ok (.aload_n 0, 1) := by decide +kernel
theorem d_Ch_lookAtWidths_11 : decode b_Ch_lookAtWidths 11 = .ok (.aload_n 1, 1) := by decide +kernel
theorem d_Ch_lookAtWidths_12 : decode b_Ch_lookAtWidths 12 = .ok (.getfield 256, 3) := by decide +kernel
theorem d_Ch_lookAtWidths_15 : decode b_Ch_lookAtWidths 15 = .ok (.iload_n 2, 1) := by decide +kernel
theorem d_Ch_lookAtWidths_16 : decode b_Ch_lookAtWidths 16 = .ok (.aaload, 1) := by decide +kernel
theorem d_Ch_lookAtWidths_17 : decode b_Ch_lookAtWidths 17 = .ok (.getfield 260, 3) := by decide +kernel
theorem d_Ch_lookAtWidths_20 : decode b_Ch_lookAtWidths 20 = .ok (.aload_n 1, 1) := by decide +kernel
theorem d_Ch_lookAtWidths_21 : decode b_Ch_lookAtWidths 21 = .ok (.getfield 263, 3) := by decide +kernel
theorem d_Ch_lookAtWidths_24 : decode b_Ch_lookAtWidths 24 = .ok (.if_icmp .eq 7, 3) := by decide +kernel
theorem d_Ch_lookAtWidths_27 : decode b_Ch_lookAtWidths 27 = .ok (.iconst 1, 1) := by decide +kernel
theorem d_Ch_lookAtWidths_28 : decode b_Ch_lookAtWidths 28 = .ok (.goto 4, 3) := by decide +kernel
theorem d_Ch_lookAtWidths_31 : decode b_Ch_lookAtWidths 31 = .ok (.iconst 0, 1) := by decide +kernel
theorem d_Ch_lookAtWidths_32 : decode b_Ch_lookAtWidths 32 = .ok (.aload_n 1, 1) := by decide +kernel
theorem d_Ch_lookAtWidths_33 : decode b_Ch_lookAtWidths 33 = .ok (.getfield 256, 3) := by decide +kernel
theorem d_Ch_lookAtWidths_36 : decode b_Ch_lookAtWidths 36 = .ok (.iload_n 2, 1) := by decide +kernel
theorem d_Ch_lookAtWidths_37 : decode b_Ch_lookAtWidths 37 = .ok (.aaload, 1) := by decide +kernel
theorem d_Ch_lookAtWidths_38 : decode b_Ch_lookAtWidths 38 = .ok (.getfield 266, 3) := by decide +kernel
theorem d_Ch_lookAtWidths_41 : decode b_Ch_lookAtWidths 41 = .ok (.invokevirtual 74, 3) := by decide +kernel
theorem d_Ch_lookAtWidths_44 : decode b_Ch_lookAtWidths 44 = .ok (.iinc 2 1, 3) := by decide +kernel
theorem d_Ch_lookAtWidths_47 : decode b_Ch_lookAtWidths 47 = .ok (.goto (-45), 3) := by decide +kernel
theorem d_Ch_lookAtWidths_50 : decode b_Ch_lookAtWidths 50 = .ok (.return_, 1) := by decide +kernel
theorem d_Ch_namesItselfTwice_0 : decode b_Ch_namesItselfTwice 0 = .ok (.iconst 0, 1) := by decide +kernel
theorem d_Ch_namesItselfTwice_1 : decode b_Ch_namesItselfTwice 1 = .ok (.istore_n 1, 1) := by decide +kernel
theorem d_Ch_namesItselfTwice_2 : decode b_Ch_namesItselfTwice 2 = .ok (.iload_n 1, 1) := by decide +kernel
theorem d_Ch_namesItselfTwice_3 : decode b_Ch_namesItselfTwice 3 = .ok (.aload_n 0, 1) := by decide +kernel
theorem d_Ch_namesItselfTwice_4 : decode b_Ch_namesItselfTwice 4 = .ok (.getfield 253, 3) := by decide +kernel
theorem d_Ch_namesItselfTwice_7 : decode b_Ch_namesItselfTwice 7 = .ok (.if_icmp .ge 24, 3) := by decide +kernel
theorem d_Ch_namesItselfTwice_10 : decode b_Ch_namesItselfTwice 10 = .ok (.aload_n 0, 1) := by decide +kernel
theorem d_Ch_namesItselfTwice_11 : decode b_Ch_namesItselfTwice 11 = .ok (.getfield 256, 3) := by decide +kernel
theorem d_Ch_namesItselfTwice_14 : decode b_Ch_namesItselfTwice 14 = .ok (.iload_n 1, 1) := by decide +kernel
theorem d_Ch_namesItselfTwice_15 : decode b_Ch_namesItselfTwice 15 = .ok (.aaload, 1) := by decide +kernel
theorem d_Ch_namesItselfTwice_16 : decode b_Ch_namesItselfTwice 16 = .ok (.getfield 218, 3) := by decide +kernel
theorem d_Ch_namesItselfTwice_19 : decode b_Ch_namesItselfTwice 19 = .ok (.iconst 1, 1) := by decide +kernel
theorem d_Ch_namesItselfTwice_20 : decode b_Ch_namesItselfTwice 20 = .ok (.if_icmp .le 5, 3) := by decide +kernel
theorem d_Ch_namesItselfTwice_23 : decode b_Ch_namesItselfTwice 23 = .ok (.iconst 1, 1) := by decide +kernel
theorem d_Ch_namesItselfTwice_24 : decode b_Ch_namesItselfTwice 24 = .ok (.ireturn, 1) := by decide +kernel
theorem d_Ch_namesItselfTwice_25 : decode b_Ch_namesItselfTwice 25 = .ok (.iinc 1 1, 3) := by decide +kernel
theorem d_Ch_namesItselfTwice_28 : decode b_Ch_namesItselfTwice 28 = .ok (.goto (-26), 3) := by decide +kernel
theorem d_Ch_namesItselfTwice_31 : decode b_Ch_namesItselfTwice 31 = .ok (.iconst 0, 1) := by decide +kernel
theorem d_Ch_namesItselfTwice_32 : decode b_Ch_namesItselfTwice 32 = .ok (.ireturn, 1) := by decide +kernel
