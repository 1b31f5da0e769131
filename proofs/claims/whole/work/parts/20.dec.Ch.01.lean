theorem d_Ch_init_0 : decode b_Ch_init 0 = .ok (.aload_n 0, 1) := by decide +kernel
theorem d_Ch_init_1 : decode b_Ch_init 1 = .ok (.invokespecial 3, 3) := by decide +kernel
theorem d_Ch_init_4 : decode b_Ch_init 4 = .ok (.return_, 1) := by decide +kernel
theorem d_Ch_nameSources_0 : decode b_Ch_nameSources 0 = .ok (.iconst 0, 1) := by decide +kernel
theorem d_Ch_nameSources_1 : decode b_Ch_nameSources 1 = .ok (.istore_n 1, 1) := by decide +kernel
theorem d_Ch_nameSources_2 : decode b_Ch_nameSources 2 = .ok (.iload_n 1, 1) := by decide +kernel
theorem d_Ch_nameSources_3 : decode b_Ch_nameSources 3 = .ok (.aload_n 0, 1) := by decide +kernel
theorem d_Ch_nameSources_4 : decode b_Ch_nameSources 4 = .ok (.getfield 9, 3) := by decide +kernel
theorem d_Ch_nameSources_7 : decode b_Ch_nameSources 7 = .ok (.getfield 101, 3) := by decide +kernel
theorem d_Ch_nameSources_10 : decode b_Ch_nameSources 10 = .ok (.invokevirtual 105, 3) := by decide +kernel
theorem d_Ch_nameSources_13 : decode b_Ch_nameSources 13 = .ok (.if_icmp .ge 107, 3) := by decide +kernel
theorem d_Ch_nameSources_16 : decode b_Ch_nameSources 16 = .ok (.aload_n 0, 1) := by decide +kernel
theorem d_Ch_nameSources_17 : decode b_Ch_nameSources 17 = .ok (.getfield 9, 3) := by decide +kernel
theorem d_Ch_nameSources_20 : decode b_Ch_nameSources 20 = .ok (.getfield 101, 3) := by decide +kernel
theorem d_Ch_nameSources_23 : decode b_Ch_nameSources 23 = .ok (.iload_n 1, 1) := by decide +kernel
theorem d_Ch_nameSources_24 : decode b_Ch_nameSources 24 = .ok (.invokevirtual 111, 3) := by decide +kernel
theorem d_Ch_nameSources_27 : decode b_Ch_nameSources 27 = .ok (.checkcast 115, 3) := by decide +kernel
theorem d_Ch_nameSources_30 : decode b_Ch_nameSources 30 = .ok (.astore_n 2, 1) := by decide +kernel
theorem d_Ch_nameSources_31 : decode b_Ch_nameSources 31 = .ok (.aload_n 0, 1) := by decide +kernel
theorem d_Ch_nameSources_32 : decode b_Ch_nameSources 32 = .ok (.getfield 9, 3) := by decide +kernel
theorem d_Ch_nameSources_35 : decode b_Ch_nameSources 35 = .ok (.getfield 81, 3) := by decide +kernel
theorem d_Ch_nameSources_38 : decode b_Ch_nameSources 38 = .ok (.iconst 1, 1) := by decide +kernel
theorem d_Ch_nameSources_39 : decode b_Ch_nameSources 39 = .ok (.isub, 1) := by decide +kernel
theorem d_Ch_nameSources_40 : decode b_Ch_nameSources 40 = .ok (.istore_n 3, 1) := by decide +kernel
theorem d_Ch_nameSources_41 : decode b_Ch_nameSources 41 = .ok (.iload_n 3, 1) := by decide +kernel
theorem d_Ch_nameSources_42 : decode b_Ch_nameSources 42 = .ok (.ifCond .lt 34, 3) := by decide +kernel
theorem d_Ch_nameSources_45 : decode b_Ch_nameSources 45 = .ok (.aload_n 0, 1) := by decide +kernel
theorem d_Ch_nameSources_46 : decode b_Ch_nameSources 46 = .ok (.getfield 9, 3) := by decide +kernel
theorem d_Ch_nameSources_49 : decode b_Ch_nameSources 49 = .ok (.getfield 84, 3) := by decide +kernel
theorem d_Ch_nameSources_52 : decode b_Ch_nameSources 52 = .ok (.iload_n 3, 1) := by decide +kernel
theorem d_Ch_nameSources_53 : decode b_Ch_nameSources 53 = .ok (.aaload, 1) := by decide +kernel
theorem d_Ch_nameSources_54 : decode b_Ch_nameSources 54 = .ok (.getfield 117, 3) := by decide +kernel
theorem d_Ch_nameSources_57 : decode b_Ch_nameSources 57 = .ok (.aload_n 2, 1) := by decide +kernel
theorem d_Ch_nameSources_58 : decode b_Ch_nameSources 58 = .ok (.getfield 121, 3) := by decide +kernel
theorem d_Ch_nameSources_61 : decode b_Ch_nameSources 61 = .ok (.lcmp, 1) := by decide +kernel
theorem d_Ch_nameSources_62 : decode b_Ch_nameSources 62 = .ok (.ifCond .ne 8, 3) := by decide +kernel
theorem d_Ch_nameSources_65 : decode b_Ch_nameSources 65 = .ok (.aload_n 2, 1) := by decide +kernel
theorem d_Ch_nameSources_66 : decode b_Ch_nameSources 66 = .ok (.iload_n 3, 1) := by decide +kernel
theorem d_Ch_nameSources_67 : decode b_Ch_nameSources 67 = .ok (.putfield 122, 3) := by decide +kernel
theorem d_Ch_nameSources_70 : decode b_Ch_nameSources 70 = .ok (.iinc 3 (-1), 3) := by decide +kernel
theorem d_Ch_nameSources_73 : decode b_Ch_nameSources 73 = .ok (.goto (-32), 3) := by decide +kernel
theorem d_Ch_nameSources_76 : decode b_Ch_nameSources 76 = .ok (.aload_n 2, 1) := by decide +kernel
theorem d_Ch_nameSources_77 : decode b_Ch_nameSources 77 = .ok (.getfield 121, 3) := by decide +kernel
theorem d_Ch_nameSources_80 : decode b_Ch_nameSources 80 = .ok (.ldc2_w 125, 3) := by decide +kernel
theorem d_Ch_nameSources_83 : decode b_Ch_nameSources 83 = .ok (.lsub, 1) := by decide +kernel
theorem d_Ch_nameSources_84 : decode b_Ch_nameSources 84 = .ok (.lstore_n 3, 1) := by decide +kernel
theorem d_Ch_nameSources_85 : decode b_Ch_nameSources 85 = .ok (.aload_n 2, 1) := by decide +kernel
theorem d_Ch_nameSources_86 : decode b_Ch_nameSources 86 = .ok (.getfield 122, 3) := by decide +kernel
theorem d_Ch_nameSources_89 : decode b_Ch_nameSources 89 = .ok (.ifCond .ge 25, 3) := by decide +kernel
theorem d_Ch_nameSources_92 : decode b_Ch_nameSources 92 = .ok (.lload_n 3, 1) := by decide +kernel
theorem d_Ch_nameSources_93 : decode b_Ch_nameSources 93 = .ok (.lconst 0, 1) := by decide +kernel
theorem d_Ch_nameSources_94 : decode b_Ch_nameSources 94 = .ok (.lcmp, 1) := by decide +kernel
theorem d_Ch_nameSources_95 : decode b_Ch_nameSources 95 = .ok (.ifCond .lt 19, 3) := by decide +kernel
theorem d_Ch_nameSources_98 : decode b_Ch_nameSources 98 = .ok (.lload_n 3, 1) := by decide +kernel
theorem d_Ch_nameSources_99 : decode b_Ch_nameSources 99 = .ok (.aload_n 0, 1) := by decide +kernel
theorem d_Ch_nameSources_100 : decode b_Ch_nameSources 100 = .ok (.getfield 19, 3) := by decide +kernel
theorem d_Ch_nameSources_103 : decode b_Ch_nameSources 103 = .ok (.i2l, 1) := by decide +kernel
theorem d_Ch_nameSources_104 : decode b_Ch_nameSources 104 = .ok (.lcmp, 1) := by decide +kernel
theorem d_Ch_nameSources_105 : decode b_Ch_nameSources 105 = .ok (.ifCond .ge 9, 3) := by decide +kernel
theorem d_Ch_nameSources_108 : decode b_Ch_nameSources 108 = .ok (.aload_n 2, 1) := by decide +kernel
theorem d_Ch_nameSources_109 : decode b_Ch_nameSources 109 = .ok (.lload_n 3, 1) := by decide +kernel
theorem d_Ch_nameSources_110 : decode b_Ch_nameSources 110 = .ok (.l2i, 1) := by decide +kernel
theorem d_Ch_nameSources_111 : decode b_Ch_nameSources 111 = .ok (.putfield 127, 3) := by decide +kernel
theorem d_Ch_nameSources_114 : decode b_Ch_nameSources 114 = .ok (.iinc 1 1, 3) := by decide +kernel
theorem d_Ch_nameSources_117 : decode b_Ch_nameSources 117 = .ok (.goto (-115), 3) := by decide +kernel
theorem d_Ch_nameSources_120 : decode b_Ch_nameSources 120 = .ok (.return_, 1) := by decide +kernel
theorem d_Ch_knownSource_0 : decode b_Ch_knownSource 0 = .ok (.iconst 0, 1) := by decide +kernel
theorem d_Ch_knownSource_1 : decode b_Ch_knownSource 1 = .ok (.istore_n 1, 1) := by decide +kernel
theorem d_Ch_knownSource_2 : decode b_Ch_knownSource 2 = .ok (.iload_n 1, 1) := by decide +kernel
theorem d_Ch_knownSource_3 : decode b_Ch_knownSource 3 = .ok (.aload_n 0, 1) := by decide +kernel
theorem d_Ch_knownSource_4 : decode b_Ch_knownSource 4 = .ok (.getfield 161, 3) := by decide +kernel
theorem d_Ch_knownSource_7 : decode b_Ch_knownSource 7 = .ok (.getfield 164, 3) := by decide +kernel
theorem d_Ch_knownSource_10 : decode b_Ch_knownSource 10 = .ok (.if_icmp .ge 39, 3) := by decide +kernel
theorem d_Ch_knownSource_13 : decode b_Ch_knownSource 13 = .ok (.aload_n 0, 1) := by decide +kernel
theorem d_Ch_knownSource_14 : decode b_Ch_knownSource 14 = .ok (.getfield 161, 3) := by decide +kernel
theorem d_Ch_knownSource_17 : decode b_Ch_knownSource 17 = .ok (.getfield 167, 3) := by decide +kernel
theorem d_Ch_knownSource_20 : decode b_Ch_knownSource 20 = .ok (.iload_n 1, 1) := by decide +kernel
theorem d_Ch_knownSource_21 : decode b_Ch_knownSource 21 = .ok (.aaload, 1) := by decide +kernel
theorem d_Ch_knownSource_22 : decode b_Ch_knownSource 22 = .ok (.getfield 170, 3) := by decide +kernel
theorem d_Ch_knownSource_25 : decode b_Ch_knownSource 25 = .ok (.aload_n 0, 1) := by decide +kernel
theorem d_Ch_knownSource_26 : decode b_Ch_knownSource 26 = .ok (.getfield 173, 3) := by decide +kernel
theorem d_Ch_knownSource_29 : decode b_Ch_knownSource 29 = .ok (.lcmp, 1) := by decide +kernel
theorem d_Ch_knownSource_30 : decode b_Ch_knownSource 30 = .ok (.ifCond .ne 13, 3) := by decide +kernel
theorem d_Ch_knownSource_33 : decode b_Ch_knownSource 33 = .ok (.aload_n 0, 1) := by decide +kernel
theorem d_Ch_knownSource_34 : decode b_Ch_knownSource 34 = .ok (.getfield 161, 3) := by decide +kernel
theorem d_Ch_knownSource_37 : decode b_Ch_knownSource 37 = .ok (.getfield 167, 3) := by decide +kernel
theorem d_Ch_knownSource_40 : decode b_Ch_knownSource 40 = .ok (.iload_n 1, 1) := by decide +kernel
theorem d_Ch_knownSource_41 : decode b_Ch_knownSource 41 = .ok (.aaload, 1) := by decide +kernel
theorem d_Ch_knownSource_42 : decode b_Ch_knownSource 42 = .ok (.areturn, 1) := by decide +kernel
theorem d_Ch_knownSource_43 : decode b_Ch_knownSource 43 = .ok (.iinc 1 1, 3) := by decide +kernel
theorem d_Ch_knownSource_46 : decode b_Ch_knownSource 46 = .ok (.goto (-44), 3) := by decide +kernel
theorem d_Ch_knownSource_49 : decode b_Ch_knownSource 49 = .ok (.aload_n 0, 1) := by decide +kernel
theorem d_Ch_knownSource_50 : decode b_Ch_knownSource 50 = .ok (.getfield 174, 3) := by decide +kernel
theorem d_Ch_knownSource_53 : decode b_Ch_knownSource 53 = .ok (.ifnull 31, 3) := by decide +kernel
theorem d_Ch_knownSource_56 : decode b_Ch_knownSource 56 = .ok (.aload_n 0, 1) := by decide +kernel
theorem d_Ch_knownSource_57 : decode b_Ch_knownSource 57 = .ok (.getfield 174, 3) := by decide +kernel
theorem d_Ch_knownSource_60 : decode b_Ch_knownSource 60 = .ok (.getfield 178, 3) := by decide +kernel
theorem d_Ch_knownSource_63 : decode b_Ch_knownSource 63 = .ok (.ifnull 21, 3) := by decide +kernel
theorem d_Ch_knownSource_66 : decode b_Ch_knownSource 66 = .ok (.aload_n 0, 1) := by decide +kernel
theorem d_Ch_knownSource_67 : decode b_Ch_knownSource 67 = .ok (.getfield 174, 3) := by decide +kernel
theorem d_Ch_knownSource_70 : decode b_Ch_knownSource 70 = .ok (.getfield 178, 3) := by decide +kernel
theorem d_Ch_knownSource_73 : decode b_Ch_knownSource 73 = .ok (.getfield 170, 3) := by decide +kernel
theorem d_Ch_knownSource_76 : decode b_Ch_knownSource 76 = .ok (.aload_n 0, 1) := by decide +kernel
theorem d_Ch_knownSource_77 : decode b_Ch_knownSource 77 = .ok (.getfield 173, 3) := by decide +kernel
theorem d_Ch_knownSource_80 : decode b_Ch_knownSource 80 = .ok (.lcmp, 1) := by decide +kernel
theorem d_Ch_knownSource_81 : decode b_Ch_knownSource 81 = .ok (.ifCond .eq 5, 3) := by decide +kernel
theorem d_Ch_knownSource_84 : decode b_Ch_knownSource 84 = .ok (.aconst_null, 1) := by decide +kernel
theorem d_Ch_knownSource_85 : decode b_Ch_knownSource 85 = .ok (.areturn, 1) := by decide +kernel
theorem d_Ch_knownSource_86 : decode b_Ch_knownSource 86 = .ok (.aload_n 0, 1) := by decide +kernel
theorem d_Ch_knownSource_87 : decode b_Ch_knownSource 87 = .ok (.getfield 174, 3) := by decide +kernel
theorem d_Ch_knownSource_90 : decode b_Ch_knownSource 90 = .ok (.getfield 178, 3) := by decide +kernel
theorem d_Ch_knownSource_93 : decode b_Ch_knownSource 93 = .ok (.areturn, 1) := by decide +kernel
theorem d_Ch_indexIn_0 : decode b_Ch_indexIn 0 = .ok (.aload_n 1, 1) := by decide +kernel
theorem d_Ch_indexIn_1 : decode b_Ch_indexIn 1 = .ok (.getfield 122, 3) := by decide +kernel
theorem d_Ch_indexIn_4 : decode b_Ch_indexIn 4 = .ok (.ifCond .lt 50, 3) := by decide +kernel
theorem d_Ch_indexIn_7 : decode b_Ch_indexIn 7 = .ok (.aload_n 0, 1) := by decide +kernel
theorem d_Ch_indexIn_8 : decode b_Ch_indexIn 8 = .ok (.getfield 9, 3) := by decide +kernel
theorem d_Ch_indexIn_11 : decode b_Ch_indexIn 11 = .ok (.getfield 84, 3) := by decide +kernel
theorem d_Ch_indexIn_14 : decode b_Ch_indexIn 14 = .ok (.aload_n 1, 1) := by decide +kernel
theorem d_Ch_indexIn_15 : decode b_Ch_indexIn 15 = .ok (.getfield 122, 3) := by decide +kernel
theorem d_Ch_indexIn_18 : decode b_Ch_indexIn 18 = .ok (.aaload, 1) := by decide +kernel
theorem d_Ch_indexIn_19 : decode b_Ch_indexIn 19 = .ok (.astore 4, 2) := by decide +kernel
theorem d_Ch_indexIn_21 : decode b_Ch_indexIn 21 = .ok (.iconst 0, 1) := by decide +kernel
theorem d_Ch_indexIn_22 : decode b_Ch_indexIn 22 = .ok (.istore 5, 2) := by decide +kernel
theorem d_Ch_indexIn_24 : decode b_Ch_indexIn 24 = .ok (.iload 5, 2) := by decide +kernel
theorem d_Ch_indexIn_26 : decode b_Ch_indexIn 26 = .ok (.iconst 4, 1) := by decide +kernel
theorem d_Ch_indexIn_27 : decode b_Ch_indexIn 27 = .ok (.if_icmp .gt 25, 3) := by decide +kernel
theorem d_Ch_indexIn_30 : decode b_Ch_indexIn 30 = .ok (.aload 4, 2) := by decide +kernel
theorem d_Ch_indexIn_32 : decode b_Ch_indexIn 32 = .ok (.getfield 181, 3) := by decide +kernel
theorem d_Ch_indexIn_35 : decode b_Ch_indexIn 35 = .ok (.iload 5, 2) := by decide +kernel
theorem d_Ch_indexIn_37 : decode b_Ch_indexIn 37 = .ok (.laload, 1) := by decide +kernel
theorem d_Ch_indexIn_38 : decode b_Ch_indexIn 38 = .ok (.lload_n 2, 1) := by decide +kernel
theorem d_Ch_indexIn_39 : decode b_Ch_indexIn 39 = .ok (.lcmp, 1) := by decide +kernel
theorem d_Ch_indexIn_40 : decode b_Ch_indexIn 40 = .ok (.ifCond .ne 6, 3) := by decide +kernel
theorem d_Ch_indexIn_43 : decode b_Ch_indexIn 43 = .ok (.iload 5, 2) := by decide +kernel
theorem d_Ch_indexIn_45 : decode b_Ch_indexIn 45 = .ok (.ireturn, 1) := by decide +kernel
theorem d_Ch_indexIn_46 : decode b_Ch_indexIn 46 = .ok (.iinc 5 1, 3) := by decide +kernel
theorem d_Ch_indexIn_49 : decode b_Ch_indexIn 49 = .ok (.goto (-25), 3) := by decide +kernel
theorem d_Ch_indexIn_52 : decode b_Ch_indexIn 52 = .ok (.iconst (-1), 1) := by decide +kernel
theorem d_Ch_indexIn_53 : decode b_Ch_indexIn 53 = .ok (.ireturn, 1) := by decide +kernel
theorem d_Ch_indexIn_54 : decode b_Ch_indexIn 54 = .ok (.lload_n 2, 1) := by decide +kernel
theorem d_Ch_indexIn_55 : decode b_Ch_indexIn 55 = .ok (.ldc2_w 185, 3) := by decide +kernel
theorem d_Ch_indexIn_58 : decode b_Ch_indexIn 58 = .ok (.lsub, 1) := by decide +kernel
theorem d_Ch_indexIn_59 : decode b_Ch_indexIn 59 = .ok (.lstore 4, 2) := by decide +kernel
theorem d_Ch_indexIn_61 : decode b_Ch_indexIn 61 = .ok (.aload_n 1, 1) := by decide +kernel
theorem d_Ch_indexIn_62 : decode b_Ch_indexIn 62 = .ok (.getfield 127, 3) := by decide +kernel
theorem d_Ch_indexIn_65 : decode b_Ch_indexIn 65 = .ok (.ifCond .lt 33, 3) := by decide +kernel
theorem d_Ch_indexIn_68 : decode b_Ch_indexIn 68 = .ok (.lload 4, 2) := by decide +kernel
theorem d_Ch_indexIn_70 : decode b_Ch_indexIn 70 = .ok (.lconst 0, 1) := by decide +kernel
theorem d_Ch_indexIn_71 : decode b_Ch_indexIn 71 = .ok (.lcmp, 1) := by decide +kernel
theorem d_Ch_indexIn_72 : decode b_Ch_indexIn 72 = .ok (.ifCond .lt 26, 3) := by decide +kernel
theorem d_Ch_indexIn_75 : decode b_Ch_indexIn 75 = .ok (.lload 4, 2) := by decide +kernel
theorem d_Ch_indexIn_77 : decode b_Ch_indexIn 77 = .ok (.aload_n 0, 1) := by decide +kernel
theorem d_Ch_indexIn_78 : decode b_Ch_indexIn 78 = .ok (.getfield 15, 3) := by decide +kernel
theorem d_Ch_indexIn_81 : decode b_Ch_indexIn 81 = .ok (.aload_n 1, 1) := by decide +kernel
theorem d_Ch_indexIn_82 : decode b_Ch_indexIn 82 = .ok (.getfield 127, 3) := by decide +kernel
theorem d_Ch_indexIn_85 : decode b_Ch_indexIn 85 = .ok (.aaload, 1) := by decide +kernel
theorem d_Ch_indexIn_86 : decode b_Ch_indexIn 86 = .ok (.getfield 187, 3) := by decide +kernel
theorem d_Ch_indexIn_89 : decode b_Ch_indexIn 89 = .ok (.i2l, 1) := by decide +kernel
theorem d_Ch_indexIn_90 : decode b_Ch_indexIn 90 = .ok (.lcmp, 1) := by decide +kernel
theorem d_Ch_indexIn_91 : decode b_Ch_indexIn 91 = .ok (.ifCond .ge 7, 3) := by decide +kernel
theorem d_Ch_indexIn_94 : decode b_Ch_indexIn 94 = .ok (.iconst 1, 1) := by decide +kernel
theorem d_Ch_indexIn_95 : decode b_Ch_indexIn 95 = .ok (.goto 4, 3) := by decide +kernel
theorem d_Ch_indexIn_98 : decode b_Ch_indexIn 98 = .ok (.iconst 0, 1) := by decide +kernel
theorem d_Ch_indexIn_99 : decode b_Ch_indexIn 99 = .ok (.istore 6, 2) := by decide +kernel
theorem d_Ch_indexIn_101 : decode b_Ch_indexIn 101 = .ok (.iload 6, 2) := by decide +kernel
theorem d_Ch_indexIn_103 : decode b_Ch_indexIn 103 = .ok (.ifCond .eq 9, 3) := by decide +kernel
theorem d_Ch_indexIn_106 : decode b_Ch_indexIn 106 = .ok (.lload 4, 2) := by decide +kernel
theorem d_Ch_indexIn_108 : decode b_Ch_indexIn 108 = .ok (.l2i, 1) := by decide +kernel
theorem d_Ch_indexIn_109 : decode b_Ch_indexIn 109 = .ok (.goto 4, 3) := by decide +kernel
theorem d_Ch_indexIn_112 : decode b_Ch_indexIn 112 = .ok (.iconst (-1), 1) := by decide +kernel
theorem d_Ch_indexIn_113 : decode b_Ch_indexIn 113 = .ok (.ireturn, 1) := by decide +kernel
theorem d_Ch_nameColumns_0 : decode b_Ch_nameColumns 0 = .ok (.iconst 0, 1) := by decide +kernel
theorem d_Ch_nameColumns_1 : decode b_Ch_nameColumns 1 = .ok (.istore_n 1, 1) := by decide +kernel
theorem d_Ch_nameColumns_2 : decode b_Ch_nameColumns 2 = .ok (.iload_n 1, 1) := by decide +kernel
theorem d_Ch_nameColumns_3 : decode b_Ch_nameColumns 3 = .ok (.aload_n 0, 1) := by decide +kernel
theorem d_Ch_nameColumns_4 : decode b_Ch_nameColumns 4 = .ok (.getfield 9, 3) := by decide +kernel
theorem d_Ch_nameColumns_7 : decode b_Ch_nameColumns 7 = .ok (.getfield 81, 3) := by decide +kernel
theorem d_Ch_nameColumns_10 : decode b_Ch_nameColumns 10 = .ok (.if_icmp .ge 38, 3) := by decide +kernel
theorem d_Ch_nameColumns_13 : decode b_Ch_nameColumns 13 = .ok (.aload_n 0, 1) := by decide +kernel
theorem d_Ch_nameColumns_14 : decode b_Ch_nameColumns 14 = .ok (.getfield 9, 3) := by decide +kernel
theorem d_Ch_nameColumns_17 : decode b_Ch_nameColumns 17 = .ok (.getfield 84, 3) := by decide +kernel
theorem d_Ch_nameColumns_20 : decode b_Ch_nameColumns 20 = .ok (.iload_n 1, 1) := by decide +kernel
theorem d_Ch_nameColumns_21 : decode b_Ch_nameColumns 21 = .ok (.aaload, 1) := by decide +kernel
theorem d_Ch_nameColumns_22 : decode b_Ch_nameColumns 22 = .ok (.astore_n 2, 1) := by decide +kernel
theorem d_Ch_nameColumns_23 : decode b_Ch_nameColumns 23 = .ok (.aload_n 2, 1) := by decide +kernel
theorem d_Ch_nameColumns_24 : decode b_Ch_nameColumns 24 = .ok (.aload_n 2, 1) := by decide +kernel
theorem d_Ch_nameColumns_25 : decode b_Ch_nameColumns 25 = .ok (.iconst 5, 1) := by decide +kernel
theorem d_Ch_nameColumns_26 : decode b_Ch_nameColumns 26 = .ok (.invokevirtual 130, 3) := by decide +kernel
theorem d_Ch_nameColumns_29 : decode b_Ch_nameColumns 29 = .ok (.putfield 134, 3) := by decide +kernel
theorem d_Ch_nameColumns_32 : decode b_Ch_nameColumns 32 = .ok (.aload_n 2, 1) := by decide +kernel
theorem d_Ch_nameColumns_33 : decode b_Ch_nameColumns 33 = .ok (.aload_n 2, 1) := by decide +kernel
theorem d_Ch_nameColumns_34 : decode b_Ch_nameColumns 34 = .ok (.bipush 6, 2) := by decide +kernel
theorem d_Ch_nameColumns_36 : decode b_Ch_nameColumns 36 = .ok (.invokevirtual 130, 3) := by decide +kernel
theorem d_Ch_nameColumns_39 : decode b_Ch_nameColumns 39 = .ok (.putfield 137, 3) := by decide +kernel
theorem d_Ch_nameColumns_42 : decode b_Ch_nameColumns 42 = .ok (.iinc 1 1, 3) := by decide +kernel
theorem d_Ch_nameColumns_45 : decode b_Ch_nameColumns 45 = .ok (.goto (-43), 3) := by decide +kernel
theorem d_Ch_nameColumns_48 : decode b_Ch_nameColumns 48 = .ok (.iconst 0, 1) := by decide +kernel
theorem d_Ch_nameColumns_49 : decode b_Ch_nameColumns 49 = .ok (.istore_n 1, 1) := by decide +kernel
theorem d_Ch_nameColumns_50 : decode b_Ch_nameColumns 50 = .ok (.iload_n 1, 1) := by decide +kernel
theorem d_Ch_nameColumns_51 : decode b_Ch_nameColumns 51 = .ok (.aload_n 0, 1) := by decide +kernel
theorem d_Ch_nameColumns_52 : decode b_Ch_nameColumns 52 = .ok (.getfield 9, 3) := by decide +kernel
theorem d_Ch_nameColumns_55 : decode b_Ch_nameColumns 55 = .ok (.getfield 140, 3) := by decide +kernel
theorem d_Ch_nameColumns_58 : decode b_Ch_nameColumns 58 = .ok (.invokevirtual 105, 3) := by decide +kernel
theorem d_Ch_nameColumns_61 : decode b_Ch_nameColumns 61 = .ok (.if_icmp .ge 59, 3) := by decide +kernel
theorem d_Ch_nameColumns_64 : decode b_Ch_nameColumns 64 = .ok (.aload_n 0, 1) := by decide +kernel
theorem d_Ch_nameColumns_65 : decode b_Ch_nameColumns 65 = .ok (.getfield 9, 3) := by decide +kernel
theorem d_Ch_nameColumns_68 : decode b_Ch_nameColumns 68 = .ok (.getfield 140, 3) := by decide +kernel
theorem d_Ch_nameColumns_71 : decode b_Ch_nameColumns 71 = .ok (.iload_n 1, 1) := by decide +kernel
theorem d_Ch_nameColumns_72 : decode b_Ch_nameColumns 72 = .ok (.invokevirtual 111, 3) := by decide +kernel
theorem d_Ch_nameColumns_75 : decode b_Ch_nameColumns 75 = .ok (.checkcast 143, 3) := by decide +kernel
theorem d_Ch_nameColumns_78 : decode b_Ch_nameColumns 78 = .ok (.astore_n 2, 1) := by decide +kernel
theorem d_Ch_nameColumns_79 : decode b_Ch_nameColumns 79 = .ok (.aload_n 2, 1) := by decide +kernel
theorem d_Ch_nameColumns_80 : decode b_Ch_nameColumns 80 = .ok (.aload_n 2, 1) := by decide +kernel
theorem d_Ch_nameColumns_81 : decode b_Ch_nameColumns 81 = .ok (.invokestatic 145, 3) := by decide +kernel
theorem d_Ch_nameColumns_84 : decode b_Ch_nameColumns 84 = .ok (.putfield 149, 3) := by decide +kernel
theorem d_Ch_nameColumns_87 : decode b_Ch_nameColumns 87 = .ok (.aload_n 2, 1) := by decide +kernel
theorem d_Ch_nameColumns_88 : decode b_Ch_nameColumns 88 = .ok (.aload_n 2, 1) := by decide +kernel
theorem d_Ch_nameColumns_89 : decode b_Ch_nameColumns 89 = .ok (.getfield 149, 3) := by decide +kernel
theorem d_Ch_nameColumns_92 : decode b_Ch_nameColumns 92 = .ok (.ifnonnull 7, 3) := by decide +kernel
theorem d_Ch_nameColumns_95 : decode b_Ch_nameColumns 95 = .ok (.iconst (-1), 1) := by decide +kernel
theorem d_Ch_nameColumns_96 : decode b_Ch_nameColumns 96 = .ok (.goto 15, 3) := by decide +kernel
theorem d_Ch_nameColumns_99 : decode b_Ch_nameColumns 99 = .ok (.aload_n 0, 1) := by decide +kernel
theorem d_Ch_nameColumns_100 : decode b_Ch_nameColumns 100 = .ok (.aload_n 2, 1) := by decide +kernel
theorem d_Ch_nameColumns_101 : decode b_Ch_nameColumns 101 = .ok (.getfield 149, 3) := by decide +kernel
theorem d_Ch_nameColumns_104 : decode b_Ch_nameColumns 104 = .ok (.aload_n 2, 1) := by decide +kernel
theorem d_Ch_nameColumns_105 : decode b_Ch_nameColumns 105 = .ok (.getfield 153, 3) := by decide +kernel
theorem d_Ch_nameColumns_108 : decode b_Ch_nameColumns 108 = .ok (.invokevirtual 154, 3) := by decide +kernel
theorem d_Ch_nameColumns_111 : decode b_Ch_nameColumns 111 = .ok (.putfield 158, 3) := by decide +kernel
theorem d_Ch_nameColumns_114 : decode b_Ch_nameColumns 114 = .ok (.iinc 1 1, 3) := by decide +kernel
theorem d_Ch_nameColumns_117 : decode b_Ch_nameColumns 117 = .ok (.goto (-67), 3) := by decide +kernel
theorem d_Ch_nameColumns_120 : decode b_Ch_nameColumns 120 = .ok (.return_, 1) := by decide +kernel
theorem d_Ch_needParts_0 : decode b_Ch_needParts 0 = .ok (.iconst 0, 1) := by decide +kernel
theorem d_Ch_needParts_1 : decode b_Ch_needParts 1 = .ok (.istore_n 1, 1) := by decide +kernel
theorem d_Ch_needParts_2 : decode b_Ch_needParts 2 = .ok (.iload_n 1, 1) := by decide +kernel
theorem d_Ch_needParts_3 : decode b_Ch_needParts 3 = .ok (.aload_n 0, 1) := by decide +kernel
theorem d_Ch_needParts_4 : decode b_Ch_needParts 4 = .ok (.getfield 9, 3) := by decide +kernel
theorem d_Ch_needParts_7 : decode b_Ch_needParts 7 = .ok (.getfield 101, 3) := by decide +kernel
theorem d_Ch_needParts_10 : decode b_Ch_needParts 10 = .ok (.invokevirtual 105, 3) := by decide +kernel
theorem d_Ch_needParts_13 : decode b_Ch_needParts 13 = .ok (.if_icmp .ge 77, 3) := by decide +kernel
theorem d_Ch_needParts_16 : decode b_Ch_needParts 16 = .ok (.aload_n 0, 1) := by decide +kernel
theorem d_Ch_needParts_17 : decode b_Ch_needParts 17 = .ok (.getfield 9, 3) := by decide +kernel
theorem d_Ch_needParts_20 : decode b_Ch_needParts 20 = .ok (.getfield 101, 3) := by decide +kernel
theorem d_Ch_needParts_23 : decode b_Ch_needParts 23 = .ok (.iload_n 1, 1) := by decide +kernel
theorem d_Ch_needParts_24 : decode b_Ch_needParts 24 = .ok (.invokevirtual 111, 3) := by decide +kernel
theorem d_Ch_needParts_27 : decode b_Ch_needParts 27 = .ok (.checkcast 115, 3) := by decide +kernel
theorem d_Ch_needParts_30 : decode b_Ch_needParts 30 = .ok (.astore_n 2, 1) := by decide +kernel
theorem d_Ch_needParts_31 : decode b_Ch_needParts 31 = .ok (.aload_n 2, 1) := by decide +kernel
theorem d_Ch_needParts_32 : decode b_Ch_needParts 32 = .ok (.getfield 122, 3) := by decide +kernel
theorem d_Ch_needParts_35 : decode b_Ch_needParts 35 = .ok (.ifCond .lt 49, 3) := by decide +kernel
theorem d_Ch_needParts_38 : decode b_Ch_needParts 38 = .ok (.aload_n 2, 1) := by decide +kernel
theorem d_Ch_needParts_39 : decode b_Ch_needParts 39 = .ok (.getfield 191, 3) := by decide +kernel
theorem d_Ch_needParts_42 : decode b_Ch_needParts 42 = .ok (.getfield 192, 3) := by decide +kernel
theorem d_Ch_needParts_45 : decode b_Ch_needParts 45 = .ok (.aload_n 0, 1) := by decide +kernel
theorem d_Ch_needParts_46 : decode b_Ch_needParts 46 = .ok (.getfield 9, 3) := by decide +kernel
theorem d_Ch_needParts_49 : decode b_Ch_needParts 49 = .ok (.getfield 81, 3) := by decide +kernel
theorem d_Ch_needParts_52 : decode b_Ch_needParts 52 = .ok (.if_icmp .ge 32, 3) := by decide +kernel
theorem d_Ch_needParts_55 : decode b_Ch_needParts 55 = .ok (.aload_n 0, 1) := by decide +kernel
theorem d_Ch_needParts_56 : decode b_Ch_needParts 56 = .ok (.getfield 9, 3) := by decide +kernel
theorem d_Ch_needParts_59 : decode b_Ch_needParts 59 = .ok (.getfield 84, 3) := by decide +kernel
theorem d_Ch_needParts_62 : decode b_Ch_needParts 62 = .ok (.aload_n 2, 1) := by decide +kernel
theorem d_Ch_needParts_63 : decode b_Ch_needParts 63 = .ok (.getfield 191, 3) := by decide +kernel
theorem d_Ch_needParts_66 : decode b_Ch_needParts 66 = .ok (.getfield 192, 3) := by decide +kernel
theorem d_Ch_needParts_69 : decode b_Ch_needParts 69 = .ok (.aaload, 1) := by decide +kernel
theorem d_Ch_needParts_70 : decode b_Ch_needParts 70 = .ok (.dup, 1) := by decide +kernel
theorem d_Ch_needParts_71 : decode b_Ch_needParts 71 = .ok (.getfield 195, 3) := by decide +kernel
theorem d_Ch_needParts_74 : decode b_Ch_needParts 74 = .ok (.iconst 1, 1) := by decide +kernel
theorem d_Ch_needParts_75 : decode b_Ch_needParts 75 = .ok (.aload_n 2, 1) := by decide +kernel
theorem d_Ch_needParts_76 : decode b_Ch_needParts 76 = .ok (.getfield 122, 3) := by decide +kernel
theorem d_Ch_needParts_79 : decode b_Ch_needParts 79 = .ok (.ishl, 1) := by decide +kernel
theorem d_Ch_needParts_80 : decode b_Ch_needParts 80 = .ok (.ior, 1) := by decide +kernel
theorem d_Ch_needParts_81 : decode b_Ch_needParts 81 = .ok (.putfield 195, 3) := by decide +kernel
theorem d_Ch_needParts_84 : decode b_Ch_needParts 84 = .ok (.iinc 1 1, 3) := by decide +kernel
theorem d_Ch_needParts_87 : decode b_Ch_needParts 87 = .ok (.goto (-85), 3) := by decide +kernel
theorem d_Ch_needParts_90 : decode b_Ch_needParts 90 = .ok (.iconst 0, 1) := by decide +kernel
theorem d_Ch_needParts_91 : decode b_Ch_needParts 91 = .ok (.istore_n 1, 1) := by decide +kernel
theorem d_Ch_needParts_92 : decode b_Ch_needParts 92 = .ok (.iload_n 1, 1) := by decide +kernel
theorem d_Ch_needParts_93 : decode b_Ch_needParts 93 = .ok (.aload_n 0, 1) := by decide +kernel
theorem d_Ch_needParts_94 : decode b_Ch_needParts 94 = .ok (.getfield 9, 3) := by decide +kernel
theorem d_Ch_needParts_97 : decode b_Ch_needParts 97 = .ok (.getfield 81, 3) := by decide +kernel
theorem d_Ch_needParts_100 : decode b_Ch_needParts 100 = .ok (.if_icmp .ge 76, 3) := by decide +kernel
theorem d_Ch_needParts_103 : decode b_Ch_needParts 103 = .ok (.iconst 0, 1) := by decide +kernel
theorem d_Ch_needParts_104 : decode b_Ch_needParts 104 = .ok (.istore_n 2, 1) := by decide +kernel
theorem d_Ch_needParts_105 : decode b_Ch_needParts 105 = .ok (.iload_n 2, 1) := by decide +kernel
theorem d_Ch_needParts_106 : decode b_Ch_needParts 106 = .ok (.aload_n 0, 1) := by decide +kernel
theorem d_Ch_needParts_107 : decode b_Ch_needParts 107 = .ok (.getfield 9, 3) := by decide +kernel
theorem d_Ch_needParts_110 : decode b_Ch_needParts 110 = .ok (.getfield 81, 3) := by decide +kernel
theorem d_Ch_needParts_113 : decode b_Ch_needParts 113 = .ok (.if_icmp .ge 57, 3) := by decide +kernel
theorem d_Ch_needParts_116 : decode b_Ch_needParts 116 = .ok (.aload_n 0, 1) := by decide +kernel
theorem d_Ch_needParts_117 : decode b_Ch_needParts 117 = .ok (.getfield 9, 3) := by decide +kernel
theorem d_Ch_needParts_120 : decode b_Ch_needParts 120 = .ok (.getfield 84, 3) := by decide +kernel
theorem d_Ch_needParts_123 : decode b_Ch_needParts 123 = .ok (.iload_n 2, 1) := by decide +kernel
theorem d_Ch_needParts_124 : decode b_Ch_needParts 124 = .ok (.aaload, 1) := by decide +kernel
theorem d_Ch_needParts_125 : decode b_Ch_needParts 125 = .ok (.getfield 195, 3) := by decide +kernel
theorem d_Ch_needParts_128 : decode b_Ch_needParts 128 = .ok (.iload_n 1, 1) := by decide +kernel
theorem d_Ch_needParts_129 : decode b_Ch_needParts 129 = .ok (.ishr, 1) := by decide +kernel
theorem d_Ch_needParts_130 : decode b_Ch_needParts 130 = .ok (.iconst 1, 1) := by decide +kernel
theorem d_Ch_needParts_131 : decode b_Ch_needParts 131 = .ok (.iand, 1) := by decide +kernel
theorem d_Ch_needParts_132 : decode b_Ch_needParts 132 = .ok (.ifCond .eq 32, 3) := by decide +kernel
theorem d_Ch_needParts_135 : decode b_Ch_needParts 135 = .ok (.aload_n 0, 1) := by decide +kernel
theorem d_Ch_needParts_136 : decode b_Ch_needParts 136 = .ok (.getfield 9, 3) := by decide +kernel
theorem d_Ch_needParts_139 : decode b_Ch_needParts 139 = .ok (.getfield 84, 3) := by decide +kernel
theorem d_Ch_needParts_142 : decode b_Ch_needParts 142 = .ok (.iload_n 2, 1) := by decide +kernel
theorem d_Ch_needParts_143 : decode b_Ch_needParts 143 = .ok (.aaload, 1) := by decide +kernel
theorem d_Ch_needParts_144 : decode b_Ch_needParts 144 = .ok (.dup, 1) := by decide +kernel
theorem d_Ch_needParts_145 : decode b_Ch_needParts 145 = .ok (.getfield 195, 3) := by decide +kernel
theorem d_Ch_needParts_148 : decode b_Ch_needParts 148 = .ok (.aload_n 0, 1) := by decide +kernel
theorem d_Ch_needParts_149 : decode b_Ch_needParts 149 = .ok (.getfield 9, 3) := by decide +kernel
theorem d_Ch_needParts_152 : decode b_Ch_needParts 152 = .ok (.getfield 84, 3) := by decide +kernel
theorem d_Ch_needParts_155 : decode b_Ch_needParts 155 = .ok (.iload_n 1, 1) := by decide +kernel
theorem d_Ch_needParts_156 : decode b_Ch_needParts 156 = .ok (.aaload, 1) := by decide +kernel
theorem d_Ch_needParts_157 : decode b_Ch_needParts 157 = .ok (.getfield 195, 3) := by decide +kernel
theorem d_Ch_needParts_160 : decode b_Ch_needParts 160 = .ok (.ior, 1) := by decide +kernel
theorem d_Ch_needParts_161 : decode b_Ch_needParts 161 = .ok (.putfield 195, 3) := by decide +kernel
theorem d_Ch_needParts_164 : decode b_Ch_needParts 164 = .ok (.iinc 2 1, 3) := by decide +kernel
theorem d_Ch_needParts_167 : decode b_Ch_needParts 167 = .ok (.goto (-62), 3) := by decide +kernel
theorem d_Ch_needParts_170 : decode b_Ch_needParts 170 = .ok (.iinc 1 1, 3) := by decide +kernel
theorem d_Ch_needParts_173 : decode b_Ch_needParts 173 = .ok (.goto (-81), 3) := by decide +kernel
theorem d_Ch_needParts_176 : decode b_Ch_needParts 176 = .ok (.iconst 0, 1) := by decide +kernel
theorem d_Ch_needParts_177 : decode b_Ch_needParts 177 = .ok (.istore_n 1, 1) := by decide +kernel
theorem d_Ch_needParts_178 : decode b_Ch_needParts 178 = .ok (.iload_n 1, 1) := by decide +kernel
theorem d_Ch_needParts_179 : decode b_Ch_needParts 179 = .ok (.aload_n 0, 1) := by decide +kernel
theorem d_Ch_needParts_180 : decode b_Ch_needParts 180 = .ok (.getfield 9, 3) := by decide +kernel
theorem d_Ch_needParts_183 : decode b_Ch_needParts 183 = .ok (.getfield 81, 3) := by decide +kernel
theorem d_Ch_needParts_186 : decode b_Ch_needParts 186 = .ok (.if_icmp .ge 123, 3) := by decide +kernel
theorem d_Ch_needParts_189 : decode b_Ch_needParts 189 = .ok (.aload_n 0, 1) := by decide +kernel
theorem d_Ch_needParts_190 : decode b_Ch_needParts 190 = .ok (.getfield 9, 3) := by decide +kernel
theorem d_Ch_needParts_193 : decode b_Ch_needParts 193 = .ok (.getfield 84, 3) := by decide +kernel
theorem d_Ch_needParts_196 : decode b_Ch_needParts 196 = .ok (.iload_n 1, 1) := by decide +kernel
theorem d_Ch_needParts_197 : decode b_Ch_needParts 197 = .ok (.aaload, 1) := by decide +kernel
theorem d_Ch_needParts_198 : decode b_Ch_needParts 198 = .ok (.astore_n 2, 1) := by decide +kernel
theorem d_Ch_needParts_199 : decode b_Ch_needParts 199 = .ok (.aload_n 2, 1) := by decide +kernel
theorem d_Ch_needParts_200 : decode b_Ch_needParts 200 = .ok (.aload_n 2, 1) := by decide +kernel
theorem d_Ch_needParts_201 : decode b_Ch_needParts 201 = .ok (.getfield 195, 3) := by decide +kernel
theorem d_Ch_needParts_204 : decode b_Ch_needParts 204 = .ok (.iload_n 1, 1) := by decide +kernel
theorem d_Ch_needParts_205 : decode b_Ch_needParts 205 = .ok (.ishr, 1) := by decide +kernel
theorem d_Ch_needParts_206 : decode b_Ch_needParts 206 = .ok (.iconst 1, 1) := by decide +kernel
theorem d_Ch_needParts_207 : decode b_Ch_needParts 207 = .ok (.iand, 1) := by decide +kernel
theorem d_Ch_needParts_208 : decode b_Ch_needParts 208 = .ok (.ifCond .eq 7, 3) := by decide +kernel
theorem d_Ch_needParts_211 : decode b_Ch_needParts 211 = .ok (.iconst 1, 1) := by decide +kernel
theorem d_Ch_needParts_212 : decode b_Ch_needParts 212 = .ok (.goto 4, 3) := by decide +kernel
theorem d_Ch_needParts_215 : decode b_Ch_needParts 215 = .ok (.iconst 0, 1) := by decide +kernel
theorem d_Ch_needParts_216 : decode b_Ch_needParts 216 = .ok (.putfield 198, 3) := by decide +kernel
theorem d_Ch_needParts_219 : decode b_Ch_needParts 219 = .ok (.aload_n 2, 1) := by decide +kernel
theorem d_Ch_needParts_220 : decode b_Ch_needParts 220 = .ok (.iconst 1, 1) := by decide +kernel
theorem d_Ch_needParts_221 : decode b_Ch_needParts 221 = .ok (.iload_n 1, 1) := by decide +kernel
theorem d_Ch_needParts_222 : decode b_Ch_needParts 222 = .ok (.ishl, 1) := by decide +kernel
theorem d_Ch_needParts_223 : decode b_Ch_needParts 223 = .ok (.putfield 202, 3) := by decide +kernel
theorem d_Ch_needParts_226 : decode b_Ch_needParts 226 = .ok (.iconst 0, 1) := by decide +kernel
theorem d_Ch_needParts_227 : decode b_Ch_needParts 227 = .ok (.istore_n 3, 1) := by decide +kernel
theorem d_Ch_needParts_228 : decode b_Ch_needParts 228 = .ok (.iload_n 3, 1) := by decide +kernel
theorem d_Ch_needParts_229 : decode b_Ch_needParts 229 = .ok (.aload_n 0, 1) := by decide +kernel
theorem d_Ch_needParts_230 : decode b_Ch_needParts 230 = .ok (.getfield 9, 3) := by decide +kernel
theorem d_Ch_needParts_233 : decode b_Ch_needParts 233 = .ok (.getfield 81, 3) := by decide +kernel
theorem d_Ch_needParts_236 : decode b_Ch_needParts 236 = .ok (.if_icmp .ge 67, 3) := by decide +kernel
theorem d_Ch_needParts_239 : decode b_Ch_needParts 239 = .ok (.aload_n 2, 1) := by decide +kernel
theorem d_Ch_needParts_240 : decode b_Ch_needParts 240 = .ok (.getfield 195, 3) := by decide +kernel
theorem d_Ch_needParts_243 : decode b_Ch_needParts 243 = .ok (.iload_n 3, 1) := by decide +kernel
theorem d_Ch_needParts_244 : decode b_Ch_needParts 244 = .ok (.ishr, 1) := by decide +kernel
theorem d_Ch_needParts_245 : decode b_Ch_needParts 245 = .ok (.iconst 1, 1) := by decide +kernel
theorem d_Ch_needParts_246 : decode b_Ch_needParts 246 = .ok (.iand, 1) := by decide +kernel
theorem d_Ch_needParts_247 : decode b_Ch_needParts 247 = .ok (.ifCond .eq 26, 3) := by decide +kernel
theorem d_Ch_needParts_250 : decode b_Ch_needParts 250 = .ok (.aload_n 0, 1) := by decide +kernel
theorem d_Ch_needParts_251 : decode b_Ch_needParts 251 = .ok (.getfield 9, 3) := by decide +kernel
theorem d_Ch_needParts_254 : decode b_Ch_needParts 254 = .ok (.getfield 84, 3) := by decide +kernel
theorem d_Ch_needParts_257 : decode b_Ch_needParts 257 = .ok (.iload_n 3, 1) := by decide +kernel
theorem d_Ch_needParts_258 : decode b_Ch_needParts 258 = .ok (.aaload, 1) := by decide +kernel
theorem d_Ch_needParts_259 : decode b_Ch_needParts 259 = .ok (.getfield 195, 3) := by decide +kernel
theorem d_Ch_needParts_262 : decode b_Ch_needParts 262 = .ok (.iload_n 1, 1) := by decide +kernel
theorem d_Ch_needParts_263 : decode b_Ch_needParts 263 = .ok (.ishr, 1) := by decide +kernel
theorem d_Ch_needParts_264 : decode b_Ch_needParts 264 = .ok (.iconst 1, 1) := by decide +kernel
theorem d_Ch_needParts_265 : decode b_Ch_needParts 265 = .ok (.iand, 1) := by decide +kernel
theorem d_Ch_needParts_266 : decode b_Ch_needParts 266 = .ok (.ifCond .eq 7, 3) := by decide +kernel
theorem d_Ch_needParts_269 : decode b_Ch_needParts 269 = .ok (.iconst 1, 1) := by decide +kernel
theorem d_Ch_needParts_270 : decode b_Ch_needParts 270 = .ok (.goto 4, 3) := by decide +kernel
theorem d_Ch_needParts_273 : decode b_Ch_needParts 273 = .ok (.iconst 0, 1) := by decide +kernel
theorem d_Ch_needParts_274 : decode b_Ch_needParts 274 = .ok (.istore 4, 2) := by decide +kernel
theorem d_Ch_needParts_276 : decode b_Ch_needParts 276 = .ok (.aload_n 2, 1) := by decide +kernel
theorem d_Ch_needParts_277 : decode b_Ch_needParts 277 = .ok (.dup, 1) := by decide +kernel
theorem d_Ch_needParts_278 : decode b_Ch_needParts 278 = .ok (.getfield 202, 3) := by decide +kernel
theorem d_Ch_needParts_281 : decode b_Ch_needParts 281 = .ok (.iload 4, 2) := by decide +kernel
theorem d_Ch_needParts_283 : decode b_Ch_needParts 283 = .ok (.ifCond .eq 9, 3) := by decide +kernel
theorem d_Ch_needParts_286 : decode b_Ch_needParts 286 = .ok (.iconst 1, 1) := by decide +kernel
theorem d_Ch_needParts_287 : decode b_Ch_needParts 287 = .ok (.iload_n 3, 1) := by decide +kernel
theorem d_Ch_needParts_288 : decode b_Ch_needParts 288 = .ok (.ishl, 1) := by decide +kernel
theorem d_Ch_needParts_289 : decode b_Ch_needParts 289 = .ok (.goto 4, 3) := by decide +kernel
theorem d_Ch_needParts_292 : decode b_Ch_needParts 292 = .ok (.iconst 0, 1) := by decide +kernel
theorem d_Ch_needParts_293 : decode b_Ch_needParts 293 = .ok (.ior, 1) := by decide +kernel
theorem d_Ch_needParts_294 : decode b_Ch_needParts 294 = .ok (.putfield 202, 3) := by decide +kernel
theorem d_Ch_needParts_297 : decode b_Ch_needParts 297 = .ok (.iinc 3 1, 3) := by decide +kernel
theorem d_Ch_needParts_300 : decode b_Ch_needParts 300 = .ok (.goto (-72), 3) := by decide +kernel
theorem d_Ch_needParts_303 : decode b_Ch_needParts 303 = .ok (.iinc 1 1, 3) := by decide +kernel
theorem d_Ch_needParts_306 : decode b_Ch_needParts 306 = .ok (.goto (-128), 3) := by decide +kernel
theorem d_Ch_needParts_309 : decode b_Ch_needParts 309 = .ok (.return_, 1) := by decide +kernel
theorem d_Ch_nextReady_0 : decode b_Ch_nextReady 0 = .ok (.iconst 0, 1) := by decide +kernel
theorem d_Ch_nextReady_1 : decode b_Ch_nextReady 1 = .ok (.istore_n 2, 1) := by decide +kernel
theorem d_Ch_nextReady_2 : decode b_Ch_nextReady 2 = .ok (.iload_n 2, 1) := by decide +kernel
theorem d_Ch_nextReady_3 : decode b_Ch_nextReady 3 = .ok (.aload_n 0, 1) := by decide +kernel
theorem d_Ch_nextReady_4 : decode b_Ch_nextReady 4 = .ok (.getfield 9, 3) := by decide +kernel
theorem d_Ch_nextReady_7 : decode b_Ch_nextReady 7 = .ok (.getfield 81, 3) := by decide +kernel
theorem d_Ch_nextReady_10 : decode b_Ch_nextReady 10 = .ok (.if_icmp .ge 47, 3) := by decide +kernel
theorem d_Ch_nextReady_13 : decode b_Ch_nextReady 13 = .ok (.aload_n 0, 1) := by decide +kernel
theorem d_Ch_nextReady_14 : decode b_Ch_nextReady 14 = .ok (.getfield 9, 3) := by decide +kernel
theorem d_Ch_nextReady_17 : decode b_Ch_nextReady 17 = .ok (.getfield 84, 3) := by decide +kernel
theorem d_Ch_nextReady_20 : decode b_Ch_nextReady 20 = .ok (.iload_n 2, 1) := by decide +kernel
theorem d_Ch_nextReady_21 : decode b_Ch_nextReady 21 = .ok (.aaload, 1) := by decide +kernel
theorem d_Ch_nextReady_22 : decode b_Ch_nextReady 22 = .ok (.astore_n 3, 1) := by decide +kernel
theorem d_Ch_nextReady_23 : decode b_Ch_nextReady 23 = .ok (.iload_n 1, 1) := by decide +kernel
theorem d_Ch_nextReady_24 : decode b_Ch_nextReady 24 = .ok (.iload_n 2, 1) := by decide +kernel
theorem d_Ch_nextReady_25 : decode b_Ch_nextReady 25 = .ok (.ishr, 1) := by decide +kernel
theorem d_Ch_nextReady_26 : decode b_Ch_nextReady 26 = .ok (.iconst 1, 1) := by decide +kernel
theorem d_Ch_nextReady_27 : decode b_Ch_nextReady 27 = .ok (.iand, 1) := by decide +kernel
theorem d_Ch_nextReady_28 : decode b_Ch_nextReady 28 = .ok (.ifCond .ne 23, 3) := by decide +kernel
theorem d_Ch_nextReady_31 : decode b_Ch_nextReady 31 = .ok (.aload_n 3, 1) := by decide +kernel
theorem d_Ch_nextReady_32 : decode b_Ch_nextReady 32 = .ok (.getfield 195, 3) := by decide +kernel
theorem d_Ch_nextReady_35 : decode b_Ch_nextReady 35 = .ok (.aload_n 3, 1) := by decide +kernel
theorem d_Ch_nextReady_36 : decode b_Ch_nextReady 36 = .ok (.getfield 202, 3) := by decide +kernel
theorem d_Ch_nextReady_39 : decode b_Ch_nextReady 39 = .ok (.iconst (-1), 1) := by decide +kernel
theorem d_Ch_nextReady_40 : decode b_Ch_nextReady 40 = .ok (.ixor, 1) := by decide +kernel
theorem d_Ch_nextReady_41 : decode b_Ch_nextReady 41 = .ok (.iand, 1) := by decide +kernel
theorem d_Ch_nextReady_42 : decode b_Ch_nextReady 42 = .ok (.iload_n 1, 1) := by decide +kernel
theorem d_Ch_nextReady_43 : decode b_Ch_nextReady 43 = .ok (.iconst (-1), 1) := by decide +kernel
theorem d_Ch_nextReady_44 : decode b_Ch_nextReady 44 = .ok (.ixor, 1) := by decide +kernel
theorem d_Ch_nextReady_45 : decode b_Ch_nextReady 45 = .ok (.iand, 1) := by decide +kernel
theorem d_Ch_nextReady_46 : decode b_Ch_nextReady 46 = .ok (.ifCond .ne 5, 3) := by decide +kernel
theorem d_Ch_nextReady_49 : decode b_Ch_nextReady 49 = .ok (.iload_n 2, 1) := by decide +kernel
theorem d_Ch_nextReady_50 : decode b_Ch_nextReady 50 = .ok (.ireturn, 1) := by decide +kernel
theorem d_Ch_nextReady_51 : decode b_Ch_nextReady 51 = .ok (.iinc 2 1, 3) := by decide +kernel
theorem d_Ch_nextReady_54 : decode b_Ch_nextReady 54 = .ok (.goto (-52), 3) := by decide +kernel
theorem d_Ch_nextReady_57 : decode b_Ch_nextReady 57 = .ok (.iconst (-1), 1) := by decide +kernel
theorem d_Ch_nextReady_58 : decode b_Ch_nextReady 58 = .ok (.ireturn, 1) := by decide +kernel
theorem d_Ch_orderComponents_0 : decode b_Ch_orderComponents 0 = .ok (.iconst 0, 1) := by decide +kernel
theorem d_Ch_orderComponents_1 : decode b_Ch_orderComponents 1 = .ok (.istore_n 1, 1) := by decide +kernel
theorem d_Ch_orderComponents_2 : decode b_Ch_orderComponents 2 = .ok (.iconst 0, 1) := by decide +kernel
theorem d_Ch_orderComponents_3 : decode b_Ch_orderComponents 3 = .ok (.istore_n 2, 1) := by decide +kernel
theorem d_Ch_orderComponents_4 : decode b_Ch_orderComponents 4 = .ok (.iload_n 2, 1) := by decide +kernel
theorem d_Ch_orderComponents_5 : decode b_Ch_orderComponents 5 = .ok (.aload_n 0, 1) := by decide +kernel
theorem d_Ch_orderComponents_6 : decode b_Ch_orderComponents 6 = .ok (.getfield 9, 3) := by decide +kernel
theorem d_Ch_orderComponents_9 : decode b_Ch_orderComponents 9 = .ok (.getfield 81, 3) := by decide +kernel
theorem d_Ch_orderComponents_12 : decode b_Ch_orderComponents 12 = .ok (.if_icmp .ge 94, 3) := by decide +kernel
theorem d_Ch_orderComponents_15 : decode b_Ch_orderComponents 15 = .ok (.aload_n 0, 1) := by decide +kernel
theorem d_Ch_orderComponents_16 : decode b_Ch_orderComponents 16 = .ok (.iload_n 1, 1) := by decide +kernel
theorem d_Ch_orderComponents_17 : decode b_Ch_orderComponents 17 = .ok (.invokevirtual 205, 3) := by decide +kernel
theorem d_Ch_orderComponents_20 : decode b_Ch_orderComponents 20 = .ok (.istore_n 3, 1) := by decide +kernel
theorem d_Ch_orderComponents_21 : decode b_Ch_orderComponents 21 = .ok (.iload_n 3, 1) := by decide +kernel
theorem d_Ch_orderComponents_22 : decode b_Ch_orderComponents 22 = .ok (.ifCond .ge 4, 3) := by decide +kernel
theorem d_Ch_orderComponents_25 : decode b_Ch_orderComponents 25 = .ok (.return_, 1) := by decide +kernel
theorem d_Ch_orderComponents_26 : decode b_Ch_orderComponents 26 = .ok (.aload_n 0, 1) := by decide +kernel
theorem d_Ch_orderComponents_27 : decode b_Ch_orderComponents 27 = .ok (.getfield 9, 3) := by decide +kernel
theorem d_Ch_orderComponents_30 : decode b_Ch_orderComponents 30 = .ok (.getfield 84, 3) := by decide +kernel
theorem d_Ch_orderComponents_33 : decode b_Ch_orderComponents 33 = .ok (.iload_n 3, 1) := by decide +kernel
theorem d_Ch_orderComponents_34 : decode b_Ch_orderComponents 34 = .ok (.aaload, 1) := by decide +kernel
theorem d_Ch_orderComponents_35 : decode b_Ch_orderComponents 35 = .ok (.getfield 202, 3) := by decide +kernel
theorem d_Ch_orderComponents_38 : decode b_Ch_orderComponents 38 = .ok (.istore 4, 2) := by decide +kernel
theorem d_Ch_orderComponents_40 : decode b_Ch_orderComponents 40 = .ok (.iconst 0, 1) := by decide +kernel
theorem d_Ch_orderComponents_41 : decode b_Ch_orderComponents 41 = .ok (.istore 5, 2) := by decide +kernel
theorem d_Ch_orderComponents_43 : decode b_Ch_orderComponents 43 = .ok (.iload 5, 2) := by decide +kernel
theorem d_Ch_orderComponents_45 : decode b_Ch_orderComponents 45 = .ok (.aload_n 0, 1) := by decide +kernel
theorem d_Ch_orderComponents_46 : decode b_Ch_orderComponents 46 = .ok (.getfield 9, 3) := by decide +kernel
theorem d_Ch_orderComponents_49 : decode b_Ch_orderComponents 49 = .ok (.getfield 81, 3) := by decide +kernel
theorem d_Ch_orderComponents_52 : decode b_Ch_orderComponents 52 = .ok (.if_icmp .ge 33, 3) := by decide +kernel
theorem d_Ch_orderComponents_55 : decode b_Ch_orderComponents 55 = .ok (.iload 4, 2) := by decide +kernel
theorem d_Ch_orderComponents_57 : decode b_Ch_orderComponents 57 = .ok (.iload 5, 2) := by decide +kernel
theorem d_Ch_orderComponents_59 : decode b_Ch_orderComponents 59 = .ok (.ishr, 1) := by decide +kernel
theorem d_Ch_orderComponents_60 : decode b_Ch_orderComponents 60 = .ok (.iconst 1, 1) := by decide +kernel
theorem d_Ch_orderComponents_61 : decode b_Ch_orderComponents 61 = .ok (.iand, 1) := by decide +kernel
theorem d_Ch_orderComponents_62 : decode b_Ch_orderComponents 62 = .ok (.ifCond .eq 17, 3) := by decide +kernel
theorem d_Ch_orderComponents_65 : decode b_Ch_orderComponents 65 = .ok (.aload_n 0, 1) := by decide +kernel
theorem d_Ch_orderComponents_66 : decode b_Ch_orderComponents 66 = .ok (.getfield 9, 3) := by decide +kernel
theorem d_Ch_orderComponents_69 : decode b_Ch_orderComponents 69 = .ok (.getfield 84, 3) := by decide +kernel
theorem d_Ch_orderComponents_72 : decode b_Ch_orderComponents 72 = .ok (.iload 5, 2) := by decide +kernel
theorem d_Ch_orderComponents_74 : decode b_Ch_orderComponents 74 = .ok (.aaload, 1) := by decide +kernel
theorem d_Ch_orderComponents_75 : decode b_Ch_orderComponents 75 = .ok (.iload_n 2, 1) := by decide +kernel
theorem d_Ch_orderComponents_76 : decode b_Ch_orderComponents 76 = .ok (.putfield 208, 3) := by decide +kernel
theorem d_Ch_orderComponents_79 : decode b_Ch_orderComponents 79 = .ok (.iinc 5 1, 3) := by decide +kernel
theorem d_Ch_orderComponents_82 : decode b_Ch_orderComponents 82 = .ok (.goto (-39), 3) := by decide +kernel
theorem d_Ch_orderComponents_85 : decode b_Ch_orderComponents 85 = .ok (.iload_n 1, 1) := by decide +kernel
theorem d_Ch_orderComponents_86 : decode b_Ch_orderComponents 86 = .ok (.iload 4, 2) := by decide +kernel
theorem d_Ch_orderComponents_88 : decode b_Ch_orderComponents 88 = .ok (.ior, 1) := by decide +kernel
theorem d_Ch_orderComponents_89 : decode b_Ch_orderComponents 89 = .ok (.istore_n 1, 1) := by decide +kernel
theorem d_Ch_orderComponents_90 : decode b_Ch_orderComponents 90 = .ok (.aload_n 0, 1) := by decide +kernel
theorem d_Ch_orderComponents_91 : decode b_Ch_orderComponents 91 = .ok (.getfield 9, 3) := by decide +kernel
theorem d_Ch_orderComponents_94 : decode b_Ch_orderComponents 94 = .ok (.iload_n 2, 1) := by decide +kernel
theorem d_Ch_orderComponents_95 : decode b_Ch_orderComponents 95 = .ok (.iconst 1, 1) := by decide +kernel
theorem d_Ch_orderComponents_96 : decode b_Ch_orderComponents 96 = .ok (.iadd, 1) := by decide +kernel
theorem d_Ch_orderComponents_97 : decode b_Ch_orderComponents 97 = .ok (.putfield 211, 3) := by decide +kernel
theorem d_Ch_orderComponents_100 : decode b_Ch_orderComponents 100 = .ok (.iinc 2 1, 3) := by decide +kernel
theorem d_Ch_orderComponents_103 : decode b_Ch_orderComponents 103 = .ok (.goto (-99), 3) := by decide +kernel
theorem d_Ch_orderComponents_106 : decode b_Ch_orderComponents 106 = .ok (.return_, 1) := by decide +kernel
theorem d_Ch_namesOwnComponent_0 : decode b_Ch_namesOwnComponent 0 = .ok (.aload_n 1, 1) := by decide +kernel
theorem d_Ch_namesOwnComponent_1 : decode b_Ch_namesOwnComponent 1 = .ok (.getfield 191, 3) := by decide +kernel
theorem d_Ch_namesOwnComponent_4 : decode b_Ch_namesOwnComponent 4 = .ok (.getfield 192, 3) := by decide +kernel
theorem d_Ch_namesOwnComponent_7 : decode b_Ch_namesOwnComponent 7 = .ok (.istore_n 2, 1) := by decide +kernel
theorem d_Ch_namesOwnComponent_8 : decode b_Ch_namesOwnComponent 8 = .ok (.aload_n 1, 1) := by decide +kernel
theorem d_Ch_namesOwnComponent_9 : decode b_Ch_namesOwnComponent 9 = .ok (.getfield 122, 3) := by decide +kernel
theorem d_Ch_namesOwnComponent_12 : decode b_Ch_namesOwnComponent 12 = .ok (.ifCond .lt 63, 3) := by decide +kernel
theorem d_Ch_namesOwnComponent_15 : decode b_Ch_namesOwnComponent 15 = .ok (.iload_n 2, 1) := by decide +kernel
theorem d_Ch_namesOwnComponent_16 : decode b_Ch_namesOwnComponent 16 = .ok (.aload_n 0, 1) := by decide +kernel
theorem d_Ch_namesOwnComponent_17 : decode b_Ch_namesOwnComponent 17 = .ok (.getfield 9, 3) := by decide +kernel
theorem d_Ch_namesOwnComponent_20 : decode b_Ch_namesOwnComponent 20 = .ok (.getfield 81, 3) := by decide +kernel
theorem d_Ch_namesOwnComponent_23 : decode b_Ch_namesOwnComponent 23 = .ok (.if_icmp .ge 52, 3) := by decide +kernel
theorem d_Ch_namesOwnComponent_26 : decode b_Ch_namesOwnComponent 26 = .ok (.aload_n 0, 1) := by decide +kernel
theorem d_Ch_namesOwnComponent_27 : decode b_Ch_namesOwnComponent 27 = .ok (.getfield 9, 3) := by decide +kernel
theorem d_Ch_namesOwnComponent_30 : decode b_Ch_namesOwnComponent 30 = .ok (.getfield 84, 3) := by decide +kernel
theorem d_Ch_namesOwnComponent_33 : decode b_Ch_namesOwnComponent 33 = .ok (.iload_n 2, 1) := by decide +kernel
theorem d_Ch_namesOwnComponent_34 : decode b_Ch_namesOwnComponent 34 = .ok (.aaload, 1) := by decide +kernel
theorem d_Ch_namesOwnComponent_35 : decode b_Ch_namesOwnComponent 35 = .ok (.getfield 198, 3) := by decide +kernel
theorem d_Ch_namesOwnComponent_38 : decode b_Ch_namesOwnComponent 38 = .ok (.ifCond .eq 37, 3) := by decide +kernel
theorem d_Ch_namesOwnComponent_41 : decode b_Ch_namesOwnComponent 41 = .ok (.aload_n 0, 1) := by decide +kernel
theorem d_Ch_namesOwnComponent_42 : decode b_Ch_namesOwnComponent 42 = .ok (.getfield 9, 3) := by decide +kernel
theorem d_Ch_namesOwnComponent_45 : decode b_Ch_namesOwnComponent 45 = .ok (.getfield 84, 3) := by decide +kernel
theorem d_Ch_namesOwnComponent_48 : decode b_Ch_namesOwnComponent 48 = .ok (.iload_n 2, 1) := by decide +kernel
theorem d_Ch_namesOwnComponent_49 : decode b_Ch_namesOwnComponent 49 = .ok (.aaload, 1) := by decide +kernel
theorem d_Ch_namesOwnComponent_50 : decode b_Ch_namesOwnComponent 50 = .ok (.getfield 208, 3) := by decide +kernel
theorem d_Ch_namesOwnComponent_53 : decode b_Ch_namesOwnComponent 53 = .ok (.aload_n 0, 1) := by decide +kernel
theorem d_Ch_namesOwnComponent_54 : decode b_Ch_namesOwnComponent 54 = .ok (.getfield 9, 3) := by decide +kernel
theorem d_Ch_namesOwnComponent_57 : decode b_Ch_namesOwnComponent 57 = .ok (.getfield 84, 3) := by decide +kernel
theorem d_Ch_namesOwnComponent_60 : decode b_Ch_namesOwnComponent 60 = .ok (.aload_n 1, 1) := by decide +kernel
theorem d_Ch_namesOwnComponent_61 : decode b_Ch_namesOwnComponent 61 = .ok (.getfield 122, 3) := by decide +kernel
theorem d_Ch_namesOwnComponent_64 : decode b_Ch_namesOwnComponent 64 = .ok (.aaload, 1) := by decide +kernel
theorem d_Ch_namesOwnComponent_65 : decode b_Ch_namesOwnComponent 65 = .ok (.getfield 208, 3) := by decide +kernel
theorem d_Ch_namesOwnComponent_68 : decode b_Ch_namesOwnComponent 68 = .ok (.if_icmp .ne 7, 3) := by decide +kernel
theorem d_Ch_namesOwnComponent_71 : decode b_Ch_namesOwnComponent 71 = .ok (.iconst 1, 1) := by decide +kernel
theorem d_Ch_namesOwnComponent_72 : decode b_Ch_namesOwnComponent 72 = .ok (.goto 4, 3) := by decide +kernel
theorem d_Ch_namesOwnComponent_75 : decode b_Ch_namesOwnComponent 75 = .ok (.iconst 0, 1) := by decide +kernel
theorem d_Ch_namesOwnComponent_76 : decode b_Ch_namesOwnComponent 76 = .ok (.ireturn, 1) := by decide +kernel
theorem d_Ch_countNamings_0 : decode b_Ch_countNamings 0 = .ok (.iconst 0, 1) := by decide +kernel
theorem d_Ch_countNamings_1 : decode b_Ch_countNamings 1 = .ok (.istore_n 1, 1) := by decide +kernel
theorem d_Ch_countNamings_2 : decode b_Ch_countNamings 2 = .ok (.iload_n 1, 1) := by decide +kernel
theorem d_Ch_countNamings_3 : decode b_Ch_countNamings 3 = .ok (.aload_n 0, 1) := by decide +kernel
theorem d_Ch_countNamings_4 : decode b_Ch_countNamings 4 = .ok (.getfield 9, 3) := by decide +kernel
theorem d_Ch_countNamings_7 : decode b_Ch_countNamings 7 = .ok (.getfield 101, 3) := by decide +kernel
theorem d_Ch_countNamings_10 : decode b_Ch_countNamings 10 = .ok (.invokevirtual 105, 3) := by decide +kernel
theorem d_Ch_countNamings_13 : decode b_Ch_countNamings 13 = .ok (.if_icmp .ge 45, 3) := by decide +kernel
theorem d_Ch_countNamings_16 : decode b_Ch_countNamings 16 = .ok (.aload_n 0, 1) := by decide +kernel
theorem d_Ch_countNamings_17 : decode b_Ch_countNamings 17 = .ok (.getfield 9, 3) := by decide +kernel
theorem d_Ch_countNamings_20 : decode b_Ch_countNamings 20 = .ok (.getfield 101, 3) := by decide +kernel
theorem d_Ch_countNamings_23 : decode b_Ch_countNamings 23 = .ok (.iload_n 1, 1) := by decide +kernel
theorem d_Ch_countNamings_24 : decode b_Ch_countNamings 24 = .ok (.invokevirtual 111, 3) := by decide +kernel
theorem d_Ch_countNamings_27 : decode b_Ch_countNamings 27 = .ok (.checkcast 115, 3) := by decide +kernel
theorem d_Ch_countNamings_30 : decode b_Ch_countNamings 30 = .ok (.astore_n 2, 1) := by decide +kernel
theorem d_Ch_countNamings_31 : decode b_Ch_countNamings 31 = .ok (.aload_n 0, 1) := by decide +kernel
theorem d_Ch_countNamings_32 : decode b_Ch_countNamings 32 = .ok (.aload_n 2, 1) := by decide +kernel
theorem d_Ch_countNamings_33 : decode b_Ch_countNamings 33 = .ok (.invokevirtual 214, 3) := by decide +kernel
theorem d_Ch_countNamings_36 : decode b_Ch_countNamings 36 = .ok (.ifCond .eq 16, 3) := by decide +kernel
theorem d_Ch_countNamings_39 : decode b_Ch_countNamings 39 = .ok (.aload_n 2, 1) := by decide +kernel
theorem d_Ch_countNamings_40 : decode b_Ch_countNamings 40 = .ok (.getfield 191, 3) := by decide +kernel
theorem d_Ch_countNamings_43 : decode b_Ch_countNamings 43 = .ok (.dup, 1) := by decide +kernel
theorem d_Ch_countNamings_44 : decode b_Ch_countNamings 44 = .ok (.getfield 218, 3) := by decide +kernel
theorem d_Ch_countNamings_47 : decode b_Ch_countNamings 47 = .ok (.iconst 1, 1) := by decide +kernel
theorem d_Ch_countNamings_48 : decode b_Ch_countNamings 48 = .ok (.iadd, 1) := by decide +kernel
theorem d_Ch_countNamings_49 : decode b_Ch_countNamings 49 = .ok (.putfield 218, 3) := by decide +kernel
theorem d_Ch_countNamings_52 : decode b_Ch_countNamings 52 = .ok (.iinc 1 1, 3) := by decide +kernel
theorem d_Ch_countNamings_55 : decode b_Ch_countNamings 55 = .ok (.goto (-53), 3) := by decide +kernel
theorem d_Ch_countNamings_58 : decode b_Ch_countNamings 58 = .ok (.return_, 1) := by decide +kernel
theorem d_Ch_note_0 : decode b_Ch_note 0 = .ok (.iload_n 1, 1) := by decide +kernel
theorem d_Ch_note_1 : decode b_Ch_note 1 = .ok (.ifCond .eq 16, 3) := by decide +kernel
theorem d_Ch_note_4 : decode b_Ch_note 4 = .ok (.iload_n 2, 1) := by decide +kernel
theorem d_Ch_note_5 : decode b_Ch_note 5 = .ok (.aload_n 0, 1) := by decide +kernel
theorem d_Ch_note_6 : decode b_Ch_note 6 = .ok (.getfield 38, 3) := by decide +kernel
theorem d_Ch_note_9 : decode b_Ch_note 9 = .ok (.if_icmp .ge 8, 3) := by decide +kernel
theorem d_Ch_note_12 : decode b_Ch_note 12 = .ok (.aload_n 0, 1) := by decide +kernel
theorem d_Ch_note_13 : decode b_Ch_note 13 = .ok (.iload_n 2, 1) := by decide +kernel
theorem d_Ch_note_14 : decode b_Ch_note 14 = .ok (.putfield 38, 3) := by decide +kernel
theorem d_Ch_note_17 : decode b_Ch_note 17 = .ok (.return_, 1) := by decide +kernel
theorem d_Ch_lookAtParts_0 : decode b_Ch_lookAtParts 0 = .ok (.iconst 0, 1) := by decide +kernel
theorem d_Ch_lookAtParts_1 : decode b_Ch_lookAtParts 1 = .ok (.istore_n 1, 1) := by decide +kernel
theorem d_Ch_lookAtParts_2 : decode b_Ch_lookAtParts 2 = .ok (.iload_n 1, 1) := by decide +kernel
theorem d_Ch_lookAtParts_3 : decode b_Ch_lookAtParts 3 = .ok (.aload_n 0, 1) := by decide +kernel
theorem d_Ch_lookAtParts_4 : decode b_Ch_lookAtParts 4 = .ok (.getfield 9, 3) := by decide +kernel
theorem d_Ch_lookAtParts_7 : decode b_Ch_lookAtParts 7 = .ok (.getfield 81, 3) := by decide +kernel
theorem d_Ch_lookAtParts_10 : decode b_Ch_lookAtParts 10 = .ok (.if_icmp .ge 209, 3) := by decide +kernel
theorem d_Ch_lookAtParts_13 : decode b_Ch_lookAtParts 13 = .ok (.aload_n 0, 1) := by decide +kernel
theorem d_Ch_lookAtParts_14 : decode b_Ch_lookAtParts 14 = .ok (.getfield 9, 3) := by decide +kernel
theorem d_Ch_lookAtParts_17 : decode b_Ch_lookAtParts 17 = .ok (.getfield 84, 3) := by decide +kernel
theorem d_Ch_lookAtParts_20 : decode b_Ch_lookAtParts 20 = .ok (.iload_n 1, 1) := by decide +kernel
theorem d_Ch_lookAtParts_21 : decode b_Ch_lookAtParts 21 = .ok (.aaload, 1) := by decide +kernel
theorem d_Ch_lookAtParts_22 : decode b_Ch_lookAtParts 22 = .ok (.astore_n 2, 1) := by decide +kernel
theorem d_Ch_lookAtParts_23 : decode b_Ch_lookAtParts 23 = .ok (.iconst 0, 1) := by decide +kernel
theorem d_Ch_lookAtParts_24 : decode b_Ch_lookAtParts 24 = .ok (.istore_n 3, 1) := by decide +kernel
theorem d_Ch_lookAtParts_25 : decode b_Ch_lookAtParts 25 = .ok (.iload_n 3, 1) := by decide +kernel
theorem d_Ch_lookAtParts_26 : decode b_Ch_lookAtParts 26 = .ok (.iload_n 1, 1) := by decide +kernel
theorem d_Ch_lookAtParts_27 : decode b_Ch_lookAtParts 27 = .ok (.if_icmp .ge 42, 3) := by decide +kernel
theorem d_Ch_lookAtParts_30 : decode b_Ch_lookAtParts 30 = .ok (.aload_n 0, 1) := by decide +kernel
theorem d_Ch_lookAtParts_31 : decode b_Ch_lookAtParts 31 = .ok (.aload_n 0, 1) := by decide +kernel
theorem d_Ch_lookAtParts_32 : decode b_Ch_lookAtParts 32 = .ok (.getfield 9, 3) := by decide +kernel
theorem d_Ch_lookAtParts_35 : decode b_Ch_lookAtParts 35 = .ok (.getfield 84, 3) := by decide +kernel
theorem d_Ch_lookAtParts_38 : decode b_Ch_lookAtParts 38 = .ok (.iload_n 3, 1) := by decide +kernel
theorem d_Ch_lookAtParts_39 : decode b_Ch_lookAtParts 39 = .ok (.aaload, 1) := by decide +kernel
theorem d_Ch_lookAtParts_40 : decode b_Ch_lookAtParts 40 = .ok (.getfield 117, 3) := by decide +kernel
theorem d_Ch_lookAtParts_43 : decode b_Ch_lookAtParts 43 = .ok (.aload_n 2, 1) := by decide +kernel
theorem d_Ch_lookAtParts_44 : decode b_Ch_lookAtParts 44 = .ok (.getfield 117, 3) := by decide +kernel
theorem d_Ch_lookAtParts_47 : decode b_Ch_lookAtParts 47 = .ok (.lcmp, 1) := by decide +kernel
theorem d_Ch_lookAtParts_48 : decode b_Ch_lookAtParts 48 = .ok (.ifCond .ne 7, 3) := by decide +kernel
theorem d_Ch_lookAtParts_51 : decode b_Ch_lookAtParts 51 = .ok (.iconst 1, 1) := by decide +kernel
theorem d_Ch_lookAtParts_52 : decode b_Ch_lookAtParts 52 = .ok (.goto 4, 3) := by decide +kernel
theorem d_Ch_lookAtParts_55 : decode b_Ch_lookAtParts 55 = .ok (.iconst 0, 1) := by decide +kernel
theorem d_Ch_lookAtParts_56 : decode b_Ch_lookAtParts 56 = .ok (.aload_n 2, 1) := by decide +kernel
theorem d_Ch_lookAtParts_57 : decode b_Ch_lookAtParts 57 = .ok (.getfield 96, 3) := by decide +kernel
theorem d_Ch_lookAtParts_60 : decode b_Ch_lookAtParts 60 = .ok (.invokevirtual 74, 3) := by decide +kernel
theorem d_Ch_lookAtParts_63 : decode b_Ch_lookAtParts 63 = .ok (.iinc 3 1, 3) := by decide +kernel
theorem d_Ch_lookAtParts_66 : decode b_Ch_lookAtParts 66 = .ok (.goto (-41), 3) := by decide +kernel
theorem d_Ch_lookAtParts_69 : decode b_Ch_lookAtParts 69 = .ok (.iconst 0, 1) := by decide +kernel
theorem d_Ch_lookAtParts_70 : decode b_Ch_lookAtParts 70 = .ok (.istore_n 3, 1) := by decide +kernel
theorem d_Ch_lookAtParts_71 : decode b_Ch_lookAtParts 71 = .ok (.iload_n 3, 1) := by decide +kernel
theorem d_Ch_lookAtParts_72 : decode b_Ch_lookAtParts 72 = .ok (.iconst 4, 1) := by decide +kernel
theorem d_Ch_lookAtParts_73 : decode b_Ch_lookAtParts 73 = .ok (.if_icmp .gt 81, 3) := by decide +kernel
theorem d_Ch_lookAtParts_76 : decode b_Ch_lookAtParts 76 = .ok (.iconst 0, 1) := by decide +kernel
theorem d_Ch_lookAtParts_77 : decode b_Ch_lookAtParts 77 = .ok (.istore 4, 2) := by decide +kernel
theorem d_Ch_lookAtParts_79 : decode b_Ch_lookAtParts 79 = .ok (.iload 4, 2) := by decide +kernel
theorem d_Ch_lookAtParts_81 : decode b_Ch_lookAtParts 81 = .ok (.iload_n 3, 1) := by decide +kernel
theorem d_Ch_lookAtParts_82 : decode b_Ch_lookAtParts 82 = .ok (.if_icmp .ge 66, 3) := by decide +kernel
theorem d_Ch_lookAtParts_85 : decode b_Ch_lookAtParts 85 = .ok (.aload_n 2, 1) := by decide +kernel
theorem d_Ch_lookAtParts_86 : decode b_Ch_lookAtParts 86 = .ok (.getfield 181, 3) := by decide +kernel
theorem d_Ch_lookAtParts_89 : decode b_Ch_lookAtParts 89 = .ok (.iload_n 3, 1) := by decide +kernel
theorem d_Ch_lookAtParts_90 : decode b_Ch_lookAtParts 90 = .ok (.laload, 1) := by decide +kernel
theorem d_Ch_lookAtParts_91 : decode b_Ch_lookAtParts 91 = .ok (.lconst 0, 1) := by decide +kernel
theorem d_Ch_lookAtParts_92 : decode b_Ch_lookAtParts 92 = .ok (.lcmp, 1) := by decide +kernel
theorem d_Ch_lookAtParts_93 : decode b_Ch_lookAtParts 93 = .ok (.ifCond .eq 24, 3) := by decide +kernel
theorem d_Ch_lookAtParts_96 : decode b_Ch_lookAtParts 96 = .ok (.aload_n 2, 1) := by decide +kernel
theorem d_Ch_lookAtParts_97 : decode b_Ch_lookAtParts 97 = .ok (.getfield 181, 3) := by decide +kernel
theorem d_Ch_lookAtParts_100 : decode b_Ch_lookAtParts 100 = .ok (.iload_n 3, 1) := by decide +kernel
theorem d_Ch_lookAtParts_101 : decode b_Ch_lookAtParts 101 = .ok (.laload, 1) := by decide +kernel
theorem d_Ch_lookAtParts_102 : decode b_Ch_lookAtParts 102 = .ok (.aload_n 2, 1) := by decide +kernel
theorem d_Ch_lookAtParts_103 : decode b_Ch_lookAtParts 103 = .ok (.getfield 181, 3) := by decide +kernel
theorem d_Ch_lookAtParts_106 : decode b_Ch_lookAtParts 106 = .ok (.iload 4, 2) := by decide +kernel
theorem d_Ch_lookAtParts_108 : decode b_Ch_lookAtParts 108 = .ok (.laload, 1) := by decide +kernel
theorem d_Ch_lookAtParts_109 : decode b_Ch_lookAtParts 109 = .ok (.lcmp, 1) := by decide +kernel
theorem d_Ch_lookAtParts_110 : decode b_Ch_lookAtParts 110 = .ok (.ifCond .ne 7, 3) := by decide +kernel
theorem d_Ch_lookAtParts_113 : decode b_Ch_lookAtParts 113 = .ok (.iconst 1, 1) := by decide +kernel
theorem d_Ch_lookAtParts_114 : decode b_Ch_lookAtParts 114 = .ok (.goto 4, 3) := by decide +kernel
theorem d_Ch_lookAtParts_117 : decode b_Ch_lookAtParts 117 = .ok (.iconst 0, 1) := by decide +kernel
theorem d_Ch_lookAtParts_118 : decode b_Ch_lookAtParts 118 = .ok (.istore 5, 2) := by decide +kernel
theorem d_Ch_lookAtParts_120 : decode b_Ch_lookAtParts 120 = .ok (.aload_n 0, 1) := by decide +kernel
theorem d_Ch_lookAtParts_121 : decode b_Ch_lookAtParts 121 = .ok (.iload 5, 2) := by decide +kernel
theorem d_Ch_lookAtParts_123 : decode b_Ch_lookAtParts 123 = .ok (.aload_n 2, 1) := by decide +kernel
theorem d_Ch_lookAtParts_124 : decode b_Ch_lookAtParts 124 = .ok (.getfield 221, 3) := by decide +kernel
theorem d_Ch_lookAtParts_127 : decode b_Ch_lookAtParts 127 = .ok (.iload_n 3, 1) := by decide +kernel
theorem d_Ch_lookAtParts_128 : decode b_Ch_lookAtParts 128 = .ok (.iaload, 1) := by decide +kernel
theorem d_Ch_lookAtParts_129 : decode b_Ch_lookAtParts 129 = .ok (.aload_n 2, 1) := by decide +kernel
theorem d_Ch_lookAtParts_130 : decode b_Ch_lookAtParts 130 = .ok (.getfield 221, 3) := by decide +kernel
theorem d_Ch_lookAtParts_133 : decode b_Ch_lookAtParts 133 = .ok (.iload 4, 2) := by decide +kernel
theorem d_Ch_lookAtParts_135 : decode b_Ch_lookAtParts 135 = .ok (.iaload, 1) := by decide +kernel
theorem d_Ch_lookAtParts_136 : decode b_Ch_lookAtParts 136 = .ok (.invokestatic 225, 3) := by decide +kernel
theorem d_Ch_lookAtParts_139 : decode b_Ch_lookAtParts 139 = .ok (.invokevirtual 74, 3) := by decide +kernel
theorem d_Ch_lookAtParts_142 : decode b_Ch_lookAtParts 142 = .ok (.iinc 4 1, 3) := by decide +kernel
theorem d_Ch_lookAtParts_145 : decode b_Ch_lookAtParts 145 = .ok (.goto (-66), 3) := by decide +kernel
theorem d_Ch_lookAtParts_148 : decode b_Ch_lookAtParts 148 = .ok (.iinc 3 1, 3) := by decide +kernel
theorem d_Ch_lookAtParts_151 : decode b_Ch_lookAtParts 151 = .ok (.goto (-80), 3) := by decide +kernel
theorem d_Ch_lookAtParts_154 : decode b_Ch_lookAtParts 154 = .ok (.aload_n 0, 1) := by decide +kernel
theorem d_Ch_lookAtParts_155 : decode b_Ch_lookAtParts 155 = .ok (.aload_n 2, 1) := by decide +kernel
theorem d_Ch_lookAtParts_156 : decode b_Ch_lookAtParts 156 = .ok (.getfield 231, 3) := by decide +kernel
theorem d_Ch_lookAtParts_159 : decode b_Ch_lookAtParts 159 = .ok (.ifCond .eq 14, 3) := by decide +kernel
theorem d_Ch_lookAtParts_162 : decode b_Ch_lookAtParts 162 = .ok (.aload_n 2, 1) := by decide +kernel
theorem d_Ch_lookAtParts_163 : decode b_Ch_lookAtParts 163 = .ok (.getfield 134, 3) := by decide +kernel
theorem d_Ch_lookAtParts_166 : decode b_Ch_lookAtParts 166 = .ok (.ifCond .ge 7, 3) := by decide +kernel
theorem d_Ch_lookAtParts_169 : decode b_Ch_lookAtParts 169 = .ok (.iconst 1, 1) := by decide +kernel
theorem d_Ch_lookAtParts_170 : decode b_Ch_lookAtParts 170 = .ok (.goto 4, 3) := by decide +kernel
theorem d_Ch_lookAtParts_173 : decode b_Ch_lookAtParts 173 = .ok (.iconst 0, 1) := by decide +kernel
theorem d_Ch_lookAtParts_174 : decode b_Ch_lookAtParts 174 = .ok (.aload_n 2, 1) := by decide +kernel
theorem d_Ch_lookAtParts_175 : decode b_Ch_lookAtParts 175 = .ok (.getfield 221, 3) := by decide +kernel
theorem d_Ch_lookAtParts_178 : decode b_Ch_lookAtParts 178 = .ok (.iconst 5, 1) := by decide +kernel
theorem d_Ch_lookAtParts_179 : decode b_Ch_lookAtParts 179 = .ok (.iaload, 1) := by decide +kernel
theorem d_Ch_lookAtParts_180 : decode b_Ch_lookAtParts 180 = .ok (.invokevirtual 74, 3) := by decide +kernel
theorem d_Ch_lookAtParts_183 : decode b_Ch_lookAtParts 183 = .ok (.aload_n 0, 1) := by decide +kernel
theorem d_Ch_lookAtParts_184 : decode b_Ch_lookAtParts 184 = .ok (.aload_n 2, 1) := by decide +kernel
theorem d_Ch_lookAtParts_185 : decode b_Ch_lookAtParts 185 = .ok (.getfield 234, 3) := by decide +kernel
theorem d_Ch_lookAtParts_188 : decode b_Ch_lookAtParts 188 = .ok (.ifCond .eq 14, 3) := by decide +kernel
theorem d_Ch_lookAtParts_191 : decode b_Ch_lookAtParts 191 = .ok (.aload_n 2, 1) := by decide +kernel
theorem d_Ch_lookAtParts_192 : decode b_Ch_lookAtParts 192 = .ok (.getfield 137, 3) := by decide +kernel
theorem d_Ch_lookAtParts_195 : decode b_Ch_lookAtParts 195 = .ok (.ifCond .ge 7, 3) := by decide +kernel
theorem d_Ch_lookAtParts_198 : decode b_Ch_lookAtParts 198 = .ok (.iconst 1, 1) := by decide +kernel
theorem d_Ch_lookAtParts_199 : decode b_Ch_lookAtParts 199 = .ok (.goto 4, 3) := by decide +kernel
theorem d_Ch_lookAtParts_202 : decode b_Ch_lookAtParts 202 = .ok (.iconst 0, 1) := by decide +kernel
theorem d_Ch_lookAtParts_203 : decode b_Ch_lookAtParts 203 = .ok (.aload_n 2, 1) := by decide +kernel
theorem d_Ch_lookAtParts_204 : decode b_Ch_lookAtParts 204 = .ok (.getfield 221, 3) := by decide +kernel
theorem d_Ch_lookAtParts_207 : decode b_Ch_lookAtParts 207 = .ok (.bipush 6, 2) := by decide +kernel
theorem d_Ch_lookAtParts_209 : decode b_Ch_lookAtParts 209 = .ok (.iaload, 1) := by decide +kernel
theorem d_Ch_lookAtParts_210 : decode b_Ch_lookAtParts 210 = .ok (.invokevirtual 74, 3) := by decide +kernel
theorem d_Ch_lookAtParts_213 : decode b_Ch_lookAtParts 213 = .ok (.iinc 1 1, 3) := by decide +kernel
theorem d_Ch_lookAtParts_216 : decode b_Ch_lookAtParts 216 = .ok (.goto (-214), 3) := by decide +kernel
theorem d_Ch_lookAtParts_219 : decode b_Ch_lookAtParts 219 = .ok (.return_, 1) := by decide +kernel
theorem d_Ch_lookAtSources_0 : decode b_Ch_lookAtSources 0 = .ok (.iconst 0, 1) := by decide +kernel
theorem d_Ch_lookAtSources_1 : decode b_Ch_lookAtSources 1 = .ok (.istore_n 1, 1) := by decide +kernel
theorem d_Ch_lookAtSources_2 : decode b_Ch_lookAtSources 2 = .ok (.iload_n 1, 1) := by decide +kernel
theorem d_Ch_lookAtSources_3 : decode b_Ch_lookAtSources 3 = .ok (.aload_n 0, 1) := by decide +kernel
theorem d_Ch_lookAtSources_4 : decode b_Ch_lookAtSources 4 = .ok (.getfield 9, 3) := by decide +kernel
theorem d_Ch_lookAtSources_7 : decode b_Ch_lookAtSources 7 = .ok (.getfield 101, 3) := by decide +kernel
theorem d_Ch_lookAtSources_10 : decode b_Ch_lookAtSources 10 = .ok (.invokevirtual 105, 3) := by decide +kernel
theorem d_Ch_lookAtSources_13 : decode b_Ch_lookAtSources 13 = .ok (.if_icmp .ge 158, 3) := by decide +kernel
theorem d_Ch_lookAtSources_16 : decode b_Ch_lookAtSources 16 = .ok (.aload_n 0, 1) := by decide +kernel
theorem d_Ch_lookAtSources_17 : decode b_Ch_lookAtSources 17 = .ok (.getfield 9, 3) := by decide +kernel
theorem d_Ch_lookAtSources_20 : decode b_Ch_lookAtSources 20 = .ok (.getfield 101, 3) := by decide +kernel
theorem d_Ch_lookAtSources_23 : decode b_Ch_lookAtSources 23 = .ok (.iload_n 1, 1) := by decide +kernel
theorem d_Ch_lookAtSources_24 : decode b_Ch_lookAtSources 24 = .ok (.invokevirtual 111, 3) := by decide +kernel
theorem d_Ch_lookAtSources_27 : decode b_Ch_lookAtSources 27 = .ok (.checkcast 115, 3) := by decide +kernel
theorem d_Ch_lookAtSources_30 : decode b_Ch_lookAtSources 30 = .ok (.astore_n 2, 1) := by decide +kernel
theorem d_Ch_lookAtSources_31 : decode b_Ch_lookAtSources 31 = .ok (.aload_n 0, 1) := by decide +kernel
theorem d_Ch_lookAtSources_32 : decode b_Ch_lookAtSources 32 = .ok (.getfield 9, 3) := by decide +kernel
theorem d_Ch_lookAtSources_35 : decode b_Ch_lookAtSources 35 = .ok (.getfield 237, 3) := by decide +kernel
