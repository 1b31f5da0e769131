theorem d_M_run_198 : decode b_M_run 198 = .ok (.if_icmp .ge 34, 3) := by decide +kernel
theorem d_M_run_201 : decode b_M_run 201 = .ok (.aload_n 0, 1) := by decide +kernel
theorem d_M_run_202 : decode b_M_run 202 = .ok (.getfield 213, 3) := by decide +kernel
theorem d_M_run_205 : decode b_M_run 205 = .ok (.iload_n 3, 1) := by decide +kernel
theorem d_M_run_206 : decode b_M_run 206 = .ok (.dup2, 1) := by decide +kernel
theorem d_M_run_207 : decode b_M_run 207 = .ok (.iaload, 1) := by decide +kernel
theorem d_M_run_208 : decode b_M_run 208 = .ok (.aload_n 0, 1) := by decide +kernel
theorem d_M_run_209 : decode b_M_run 209 = .ok (.getfield 180, 3) := by decide +kernel
theorem d_M_run_212 : decode b_M_run 212 = .ok (.iload 4, 2) := by decide +kernel
theorem d_M_run_214 : decode b_M_run 214 = .ok (.iaload, 1) := by decide +kernel
theorem d_M_run_215 : decode b_M_run 215 = .ok (.iload_n 3, 1) := by decide +kernel
theorem d_M_run_216 : decode b_M_run 216 = .ok (.if_icmp .ne 7, 3) := by decide +kernel
theorem d_M_run_219 : decode b_M_run 219 = .ok (.iconst 1, 1) := by decide +kernel
theorem d_M_run_220 : decode b_M_run 220 = .ok (.goto 4, 3) := by decide +kernel
theorem d_M_run_223 : decode b_M_run 223 = .ok (.iconst 0, 1) := by decide +kernel
theorem d_M_run_224 : decode b_M_run 224 = .ok (.iadd, 1) := by decide +kernel
theorem d_M_run_225 : decode b_M_run 225 = .ok (.iastore, 1) := by decide +kernel
theorem d_M_run_226 : decode b_M_run 226 = .ok (.iinc 4 1, 3) := by decide +kernel
theorem d_M_run_229 : decode b_M_run 229 = .ok (.goto (-37), 3) := by decide +kernel
theorem d_M_run_232 : decode b_M_run 232 = .ok (.iinc 3 1, 3) := by decide +kernel
theorem d_M_run_235 : decode b_M_run 235 = .ok (.goto (-61), 3) := by decide +kernel
theorem d_M_run_238 : decode b_M_run 238 = .ok (.aload_n 0, 1) := by decide +kernel
theorem d_M_run_239 : decode b_M_run 239 = .ok (.getfield 569, 3) := by decide +kernel
theorem d_M_run_242 : decode b_M_run 242 = .ok (.ireturn, 1) := by decide +kernel
theorem d_M_cell_0 : decode b_M_cell 0 = .ok (.aload_n 0, 1) := by decide +kernel
theorem d_M_cell_1 : decode b_M_cell 1 = .ok (.aload_n 0, 1) := by decide +kernel
theorem d_M_cell_2 : decode b_M_cell 2 = .ok (.getfield 454, 3) := by decide +kernel
theorem d_M_cell_5 : decode b_M_cell 5 = .ok (.ifCond .eq 27, 3) := by decide +kernel
theorem d_M_cell_8 : decode b_M_cell 8 = .ok (.iload_n 1, 1) := by decide +kernel
theorem d_M_cell_9 : decode b_M_cell 9 = .ok (.ifCond .lt 23, 3) := by decide +kernel
theorem d_M_cell_12 : decode b_M_cell 12 = .ok (.iload_n 1, 1) := by decide +kernel
theorem d_M_cell_13 : decode b_M_cell 13 = .ok (.aload_n 0, 1) := by decide +kernel
theorem d_M_cell_14 : decode b_M_cell 14 = .ok (.getfield 569, 3) := by decide +kernel
theorem d_M_cell_17 : decode b_M_cell 17 = .ok (.if_icmp .ge 15, 3) := by decide +kernel
theorem d_M_cell_20 : decode b_M_cell 20 = .ok (.iload_n 2, 1) := by decide +kernel
theorem d_M_cell_21 : decode b_M_cell 21 = .ok (.ifCond .lt 11, 3) := by decide +kernel
theorem d_M_cell_24 : decode b_M_cell 24 = .ok (.iload_n 2, 1) := by decide +kernel
theorem d_M_cell_25 : decode b_M_cell 25 = .ok (.aload_n 0, 1) := by decide +kernel
theorem d_M_cell_26 : decode b_M_cell 26 = .ok (.getfield 586, 3) := by decide +kernel
theorem d_M_cell_29 : decode b_M_cell 29 = .ok (.if_icmp .lt 7, 3) := by decide +kernel
theorem d_M_cell_32 : decode b_M_cell 32 = .ok (.iconst 1, 1) := by decide +kernel
theorem d_M_cell_33 : decode b_M_cell 33 = .ok (.goto 4, 3) := by decide +kernel
theorem d_M_cell_36 : decode b_M_cell 36 = .ok (.iconst 0, 1) := by decide +kernel
theorem d_M_cell_37 : decode b_M_cell 37 = .ok (.putfield 238, 3) := by decide +kernel
theorem d_M_cell_40 : decode b_M_cell 40 = .ok (.aload_n 0, 1) := by decide +kernel
theorem d_M_cell_41 : decode b_M_cell 41 = .ok (.getfield 238, 3) := by decide +kernel
theorem d_M_cell_44 : decode b_M_cell 44 = .ok (.ifCond .le 7, 3) := by decide +kernel
theorem d_M_cell_47 : decode b_M_cell 47 = .ok (.lconst 0, 1) := by decide +kernel
theorem d_M_cell_48 : decode b_M_cell 48 = .ok (.goto 18, 3) := by decide +kernel
theorem d_M_cell_51 : decode b_M_cell 51 = .ok (.aload_n 0, 1) := by decide +kernel
theorem d_M_cell_52 : decode b_M_cell 52 = .ok (.getfield 198, 3) := by decide +kernel
theorem d_M_cell_55 : decode b_M_cell 55 = .ok (.iconst 4, 1) := by decide +kernel
theorem d_M_cell_56 : decode b_M_cell 56 = .ok (.aload_n 0, 1) := by decide +kernel
theorem d_M_cell_57 : decode b_M_cell 57 = .ok (.getfield 204, 3) := by decide +kernel
theorem d_M_cell_60 : decode b_M_cell 60 = .ok (.iload_n 1, 1) := by decide +kernel
theorem d_M_cell_61 : decode b_M_cell 61 = .ok (.iaload, 1) := by decide +kernel
theorem d_M_cell_62 : decode b_M_cell 62 = .ok (.imul, 1) := by decide +kernel
theorem d_M_cell_63 : decode b_M_cell 63 = .ok (.iload_n 2, 1) := by decide +kernel
theorem d_M_cell_64 : decode b_M_cell 64 = .ok (.iadd, 1) := by decide +kernel
theorem d_M_cell_65 : decode b_M_cell 65 = .ok (.laload, 1) := by decide +kernel
theorem d_M_cell_66 : decode b_M_cell 66 = .ok (.lreturn, 1) := by decide +kernel
theorem d_M_size_0 : decode b_M_size 0 = .ok (.aload_n 0, 1) := by decide +kernel
theorem d_M_size_1 : decode b_M_size 1 = .ok (.aload_n 0, 1) := by decide +kernel
theorem d_M_size_2 : decode b_M_size 2 = .ok (.getfield 454, 3) := by decide +kernel
theorem d_M_size_5 : decode b_M_size 5 = .ok (.ifCond .eq 15, 3) := by decide +kernel
theorem d_M_size_8 : decode b_M_size 8 = .ok (.iload_n 1, 1) := by decide +kernel
theorem d_M_size_9 : decode b_M_size 9 = .ok (.ifCond .lt 11, 3) := by decide +kernel
theorem d_M_size_12 : decode b_M_size 12 = .ok (.iload_n 1, 1) := by decide +kernel
theorem d_M_size_13 : decode b_M_size 13 = .ok (.aload_n 0, 1) := by decide +kernel
theorem d_M_size_14 : decode b_M_size 14 = .ok (.getfield 604, 3) := by decide +kernel
theorem d_M_size_17 : decode b_M_size 17 = .ok (.if_icmp .lt 7, 3) := by decide +kernel
theorem d_M_size_20 : decode b_M_size 20 = .ok (.iconst 1, 1) := by decide +kernel
theorem d_M_size_21 : decode b_M_size 21 = .ok (.goto 4, 3) := by decide +kernel
theorem d_M_size_24 : decode b_M_size 24 = .ok (.iconst 0, 1) := by decide +kernel
theorem d_M_size_25 : decode b_M_size 25 = .ok (.putfield 238, 3) := by decide +kernel
theorem d_M_size_28 : decode b_M_size 28 = .ok (.aload_n 0, 1) := by decide +kernel
theorem d_M_size_29 : decode b_M_size 29 = .ok (.getfield 238, 3) := by decide +kernel
theorem d_M_size_32 : decode b_M_size 32 = .ok (.ifCond .le 7, 3) := by decide +kernel
theorem d_M_size_35 : decode b_M_size 35 = .ok (.iconst 0, 1) := by decide +kernel
theorem d_M_size_36 : decode b_M_size 36 = .ok (.goto 9, 3) := by decide +kernel
theorem d_M_size_39 : decode b_M_size 39 = .ok (.aload_n 0, 1) := by decide +kernel
theorem d_M_size_40 : decode b_M_size 40 = .ok (.getfield 213, 3) := by decide +kernel
theorem d_M_size_43 : decode b_M_size 43 = .ok (.iload_n 1, 1) := by decide +kernel
theorem d_M_size_44 : decode b_M_size 44 = .ok (.iaload, 1) := by decide +kernel
theorem d_M_size_45 : decode b_M_size 45 = .ok (.ireturn, 1) := by decide +kernel
theorem d_M_rounds_0 : decode b_M_rounds 0 = .ok (.aload_n 0, 1) := by decide +kernel
theorem d_M_rounds_1 : decode b_M_rounds 1 = .ok (.aload_n 0, 1) := by decide +kernel
theorem d_M_rounds_2 : decode b_M_rounds 2 = .ok (.getfield 454, 3) := by decide +kernel
theorem d_M_rounds_5 : decode b_M_rounds 5 = .ok (.ifCond .eq 29, 3) := by decide +kernel
theorem d_M_rounds_8 : decode b_M_rounds 8 = .ok (.iload_n 1, 1) := by decide +kernel
theorem d_M_rounds_9 : decode b_M_rounds 9 = .ok (.ifCond .lt 25, 3) := by decide +kernel
theorem d_M_rounds_12 : decode b_M_rounds 12 = .ok (.iload_n 1, 1) := by decide +kernel
theorem d_M_rounds_13 : decode b_M_rounds 13 = .ok (.aload_n 0, 1) := by decide +kernel
theorem d_M_rounds_14 : decode b_M_rounds 14 = .ok (.getfield 607, 3) := by decide +kernel
theorem d_M_rounds_17 : decode b_M_rounds 17 = .ok (.if_icmp .ge 17, 3) := by decide +kernel
theorem d_M_rounds_20 : decode b_M_rounds 20 = .ok (.iload_n 2, 1) := by decide +kernel
theorem d_M_rounds_21 : decode b_M_rounds 21 = .ok (.ifCond .lt 13, 3) := by decide +kernel
theorem d_M_rounds_24 : decode b_M_rounds 24 = .ok (.iload_n 2, 1) := by decide +kernel
theorem d_M_rounds_25 : decode b_M_rounds 25 = .ok (.aload_n 0, 1) := by decide +kernel
theorem d_M_rounds_26 : decode b_M_rounds 26 = .ok (.getfield 207, 3) := by decide +kernel
theorem d_M_rounds_29 : decode b_M_rounds 29 = .ok (.iload_n 1, 1) := by decide +kernel
theorem d_M_rounds_30 : decode b_M_rounds 30 = .ok (.iaload, 1) := by decide +kernel
theorem d_M_rounds_31 : decode b_M_rounds 31 = .ok (.if_icmp .le 7, 3) := by decide +kernel
theorem d_M_rounds_34 : decode b_M_rounds 34 = .ok (.iconst 1, 1) := by decide +kernel
theorem d_M_rounds_35 : decode b_M_rounds 35 = .ok (.goto 4, 3) := by decide +kernel
theorem d_M_rounds_38 : decode b_M_rounds 38 = .ok (.iconst 0, 1) := by decide +kernel
theorem d_M_rounds_39 : decode b_M_rounds 39 = .ok (.putfield 238, 3) := by decide +kernel
theorem d_M_rounds_42 : decode b_M_rounds 42 = .ok (.aload_n 0, 1) := by decide +kernel
theorem d_M_rounds_43 : decode b_M_rounds 43 = .ok (.getfield 238, 3) := by decide +kernel
theorem d_M_rounds_46 : decode b_M_rounds 46 = .ok (.ifCond .le 7, 3) := by decide +kernel
theorem d_M_rounds_49 : decode b_M_rounds 49 = .ok (.iconst 0, 1) := by decide +kernel
theorem d_M_rounds_50 : decode b_M_rounds 50 = .ok (.goto 29, 3) := by decide +kernel
theorem d_M_rounds_53 : decode b_M_rounds 53 = .ok (.iload_n 2, 1) := by decide +kernel
theorem d_M_rounds_54 : decode b_M_rounds 54 = .ok (.ifCond .ne 12, 3) := by decide +kernel
theorem d_M_rounds_57 : decode b_M_rounds 57 = .ok (.aload_n 0, 1) := by decide +kernel
theorem d_M_rounds_58 : decode b_M_rounds 58 = .ok (.getfield 207, 3) := by decide +kernel
theorem d_M_rounds_61 : decode b_M_rounds 61 = .ok (.iload_n 1, 1) := by decide +kernel
theorem d_M_rounds_62 : decode b_M_rounds 62 = .ok (.iaload, 1) := by decide +kernel
theorem d_M_rounds_63 : decode b_M_rounds 63 = .ok (.goto 16, 3) := by decide +kernel
theorem d_M_rounds_66 : decode b_M_rounds 66 = .ok (.aload_n 0, 1) := by decide +kernel
theorem d_M_rounds_67 : decode b_M_rounds 67 = .ok (.getfield 210, 3) := by decide +kernel
theorem d_M_rounds_70 : decode b_M_rounds 70 = .ok (.bipush 32, 2) := by decide +kernel
theorem d_M_rounds_72 : decode b_M_rounds 72 = .ok (.iload_n 1, 1) := by decide +kernel
theorem d_M_rounds_73 : decode b_M_rounds 73 = .ok (.imul, 1) := by decide +kernel
theorem d_M_rounds_74 : decode b_M_rounds 74 = .ok (.iload_n 2, 1) := by decide +kernel
theorem d_M_rounds_75 : decode b_M_rounds 75 = .ok (.iadd, 1) := by decide +kernel
theorem d_M_rounds_76 : decode b_M_rounds 76 = .ok (.iconst 1, 1) := by decide +kernel
theorem d_M_rounds_77 : decode b_M_rounds 77 = .ok (.isub, 1) := by decide +kernel
theorem d_M_rounds_78 : decode b_M_rounds 78 = .ok (.iaload, 1) := by decide +kernel
theorem d_M_rounds_79 : decode b_M_rounds 79 = .ok (.ireturn, 1) := by decide +kernel
