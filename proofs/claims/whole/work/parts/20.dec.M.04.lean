theorem d_M_readTrails_96 : decode b_M_readTrails 96 = .ok (.iastore, 1) := by decide +kernel
theorem d_M_readTrails_97 : decode b_M_readTrails 97 = .ok (.aload_n 0, 1) := by decide +kernel
theorem d_M_readTrails_98 : decode b_M_readTrails 98 = .ok (.getfield 53, 3) := by decide +kernel
theorem d_M_readTrails_101 : decode b_M_readTrails 101 = .ok (.iload_n 1, 1) := by decide +kernel
theorem d_M_readTrails_102 : decode b_M_readTrails 102 = .ok (.iconst (-1), 1) := by decide +kernel
theorem d_M_readTrails_103 : decode b_M_readTrails 103 = .ok (.iastore, 1) := by decide +kernel
theorem d_M_readTrails_104 : decode b_M_readTrails 104 = .ok (.aload_n 0, 1) := by decide +kernel
theorem d_M_readTrails_105 : decode b_M_readTrails 105 = .ok (.bipush 20, 2) := by decide +kernel
theorem d_M_readTrails_107 : decode b_M_readTrails 107 = .ok (.invokevirtual 320, 3) := by decide +kernel
theorem d_M_readTrails_110 : decode b_M_readTrails 110 = .ok (.ifCond .eq 34, 3) := by decide +kernel
theorem d_M_readTrails_113 : decode b_M_readTrails 113 = .ok (.aload_n 0, 1) := by decide +kernel
theorem d_M_readTrails_114 : decode b_M_readTrails 114 = .ok (.getfield 53, 3) := by decide +kernel
theorem d_M_readTrails_117 : decode b_M_readTrails 117 = .ok (.iload_n 1, 1) := by decide +kernel
theorem d_M_readTrails_118 : decode b_M_readTrails 118 = .ok (.aload_n 0, 1) := by decide +kernel
theorem d_M_readTrails_119 : decode b_M_readTrails 119 = .ok (.bipush 30, 2) := by decide +kernel
theorem d_M_readTrails_121 : decode b_M_readTrails 121 = .ok (.invokevirtual 317, 3) := by decide +kernel
theorem d_M_readTrails_124 : decode b_M_readTrails 124 = .ok (.iastore, 1) := by decide +kernel
theorem d_M_readTrails_125 : decode b_M_readTrails 125 = .ok (.aload_n 0, 1) := by decide +kernel
theorem d_M_readTrails_126 : decode b_M_readTrails 126 = .ok (.bipush 19, 2) := by decide +kernel
theorem d_M_readTrails_128 : decode b_M_readTrails 128 = .ok (.invokevirtual 317, 3) := by decide +kernel
theorem d_M_readTrails_131 : decode b_M_readTrails 131 = .ok (.pop, 1) := by decide +kernel
theorem d_M_readTrails_132 : decode b_M_readTrails 132 = .ok (.aload_n 0, 1) := by decide +kernel
theorem d_M_readTrails_133 : decode b_M_readTrails 133 = .ok (.getfield 56, 3) := by decide +kernel
theorem d_M_readTrails_136 : decode b_M_readTrails 136 = .ok (.iload_n 1, 1) := by decide +kernel
theorem d_M_readTrails_137 : decode b_M_readTrails 137 = .ok (.aload_n 0, 1) := by decide +kernel
theorem d_M_readTrails_138 : decode b_M_readTrails 138 = .ok (.bipush 30, 2) := by decide +kernel
theorem d_M_readTrails_140 : decode b_M_readTrails 140 = .ok (.invokevirtual 317, 3) := by decide +kernel
theorem d_M_readTrails_143 : decode b_M_readTrails 143 = .ok (.iastore, 1) := by decide +kernel
theorem d_M_readTrails_144 : decode b_M_readTrails 144 = .ok (.return_, 1) := by decide +kernel
theorem d_M_readPart_0 : decode b_M_readPart 0 = .ok (.aload_n 0, 1) := by decide +kernel
theorem d_M_readPart_1 : decode b_M_readPart 1 = .ok (.getfield 330, 3) := by decide +kernel
theorem d_M_readPart_4 : decode b_M_readPart 4 = .ok (.istore_n 1, 1) := by decide +kernel
theorem d_M_readPart_5 : decode b_M_readPart 5 = .ok (.aload_n 0, 1) := by decide +kernel
theorem d_M_readPart_6 : decode b_M_readPart 6 = .ok (.getfield 35, 3) := by decide +kernel
theorem d_M_readPart_9 : decode b_M_readPart 9 = .ok (.iload_n 1, 1) := by decide +kernel
theorem d_M_readPart_10 : decode b_M_readPart 10 = .ok (.aload_n 0, 1) := by decide +kernel
theorem d_M_readPart_11 : decode b_M_readPart 11 = .ok (.bipush 30, 2) := by decide +kernel
theorem d_M_readPart_13 : decode b_M_readPart 13 = .ok (.invokevirtual 317, 3) := by decide +kernel
theorem d_M_readPart_16 : decode b_M_readPart 16 = .ok (.iastore, 1) := by decide +kernel
theorem d_M_readPart_17 : decode b_M_readPart 17 = .ok (.aload_n 0, 1) := by decide +kernel
theorem d_M_readPart_18 : decode b_M_readPart 18 = .ok (.bipush 40, 2) := by decide +kernel
theorem d_M_readPart_20 : decode b_M_readPart 20 = .ok (.invokevirtual 346, 3) := by decide +kernel
theorem d_M_readPart_23 : decode b_M_readPart 23 = .ok (.aload_n 0, 1) := by decide +kernel
theorem d_M_readPart_24 : decode b_M_readPart 24 = .ok (.getfield 38, 3) := by decide +kernel
theorem d_M_readPart_27 : decode b_M_readPart 27 = .ok (.iload_n 1, 1) := by decide +kernel
theorem d_M_readPart_28 : decode b_M_readPart 28 = .ok (.iconst 0, 1) := by decide +kernel
theorem d_M_readPart_29 : decode b_M_readPart 29 = .ok (.iastore, 1) := by decide +kernel
theorem d_M_readPart_30 : decode b_M_readPart 30 = .ok (.iconst 1, 1) := by decide +kernel
theorem d_M_readPart_31 : decode b_M_readPart 31 = .ok (.istore_n 2, 1) := by decide +kernel
theorem d_M_readPart_32 : decode b_M_readPart 32 = .ok (.iload_n 2, 1) := by decide +kernel
theorem d_M_readPart_33 : decode b_M_readPart 33 = .ok (.ifCond .eq 69, 3) := by decide +kernel
theorem d_M_readPart_36 : decode b_M_readPart 36 = .ok (.aload_n 0, 1) := by decide +kernel
theorem d_M_readPart_37 : decode b_M_readPart 37 = .ok (.invokevirtual 303, 3) := by decide +kernel
theorem d_M_readPart_40 : decode b_M_readPart 40 = .ok (.ifCond .ne 62, 3) := by decide +kernel
theorem d_M_readPart_43 : decode b_M_readPart 43 = .ok (.aload_n 0, 1) := by decide +kernel
theorem d_M_readPart_44 : decode b_M_readPart 44 = .ok (.getfield 41, 3) := by decide +kernel
theorem d_M_readPart_47 : decode b_M_readPart 47 = .ok (.iconst 3, 1) := by decide +kernel
theorem d_M_readPart_48 : decode b_M_readPart 48 = .ok (.iload_n 1, 1) := by decide +kernel
theorem d_M_readPart_49 : decode b_M_readPart 49 = .ok (.imul, 1) := by decide +kernel
theorem d_M_readPart_50 : decode b_M_readPart 50 = .ok (.aload_n 0, 1) := by decide +kernel
theorem d_M_readPart_51 : decode b_M_readPart 51 = .ok (.getfield 38, 3) := by decide +kernel
theorem d_M_readPart_54 : decode b_M_readPart 54 = .ok (.iload_n 1, 1) := by decide +kernel
theorem d_M_readPart_55 : decode b_M_readPart 55 = .ok (.iaload, 1) := by decide +kernel
theorem d_M_readPart_56 : decode b_M_readPart 56 = .ok (.iadd, 1) := by decide +kernel
theorem d_M_readPart_57 : decode b_M_readPart 57 = .ok (.aload_n 0, 1) := by decide +kernel
theorem d_M_readPart_58 : decode b_M_readPart 58 = .ok (.bipush 30, 2) := by decide +kernel
theorem d_M_readPart_60 : decode b_M_readPart 60 = .ok (.invokevirtual 317, 3) := by decide +kernel
theorem d_M_readPart_63 : decode b_M_readPart 63 = .ok (.iastore, 1) := by decide +kernel
theorem d_M_readPart_64 : decode b_M_readPart 64 = .ok (.aload_n 0, 1) := by decide +kernel
theorem d_M_readPart_65 : decode b_M_readPart 65 = .ok (.getfield 38, 3) := by decide +kernel
theorem d_M_readPart_68 : decode b_M_readPart 68 = .ok (.iload_n 1, 1) := by decide +kernel
theorem d_M_readPart_69 : decode b_M_readPart 69 = .ok (.dup2, 1) := by decide +kernel
theorem d_M_readPart_70 : decode b_M_readPart 70 = .ok (.iaload, 1) := by decide +kernel
theorem d_M_readPart_71 : decode b_M_readPart 71 = .ok (.iconst 1, 1) := by decide +kernel
theorem d_M_readPart_72 : decode b_M_readPart 72 = .ok (.iadd, 1) := by decide +kernel
theorem d_M_readPart_73 : decode b_M_readPart 73 = .ok (.iastore, 1) := by decide +kernel
theorem d_M_readPart_74 : decode b_M_readPart 74 = .ok (.aload_n 0, 1) := by decide +kernel
theorem d_M_readPart_75 : decode b_M_readPart 75 = .ok (.getfield 38, 3) := by decide +kernel
theorem d_M_readPart_78 : decode b_M_readPart 78 = .ok (.iload_n 1, 1) := by decide +kernel
theorem d_M_readPart_79 : decode b_M_readPart 79 = .ok (.iaload, 1) := by decide +kernel
theorem d_M_readPart_80 : decode b_M_readPart 80 = .ok (.iconst 3, 1) := by decide +kernel
theorem d_M_readPart_81 : decode b_M_readPart 81 = .ok (.if_icmp .ge 16, 3) := by decide +kernel
theorem d_M_readPart_84 : decode b_M_readPart 84 = .ok (.aload_n 0, 1) := by decide +kernel
theorem d_M_readPart_85 : decode b_M_readPart 85 = .ok (.bipush 44, 2) := by decide +kernel
theorem d_M_readPart_87 : decode b_M_readPart 87 = .ok (.invokevirtual 333, 3) := by decide +kernel
theorem d_M_readPart_90 : decode b_M_readPart 90 = .ok (.ifCond .eq 7, 3) := by decide +kernel
theorem d_M_readPart_93 : decode b_M_readPart 93 = .ok (.iconst 1, 1) := by decide +kernel
theorem d_M_readPart_94 : decode b_M_readPart 94 = .ok (.goto 4, 3) := by decide +kernel
theorem d_M_readPart_97 : decode b_M_readPart 97 = .ok (.iconst 0, 1) := by decide +kernel
theorem d_M_readPart_98 : decode b_M_readPart 98 = .ok (.istore_n 2, 1) := by decide +kernel
theorem d_M_readPart_99 : decode b_M_readPart 99 = .ok (.goto (-67), 3) := by decide +kernel
theorem d_M_readPart_102 : decode b_M_readPart 102 = .ok (.aload_n 0, 1) := by decide +kernel
theorem d_M_readPart_103 : decode b_M_readPart 103 = .ok (.bipush 41, 2) := by decide +kernel
theorem d_M_readPart_105 : decode b_M_readPart 105 = .ok (.invokevirtual 346, 3) := by decide +kernel
theorem d_M_readPart_108 : decode b_M_readPart 108 = .ok (.aload_n 0, 1) := by decide +kernel
theorem d_M_readPart_109 : decode b_M_readPart 109 = .ok (.iconst 3, 1) := by decide +kernel
theorem d_M_readPart_110 : decode b_M_readPart 110 = .ok (.invokevirtual 317, 3) := by decide +kernel
theorem d_M_readPart_113 : decode b_M_readPart 113 = .ok (.pop, 1) := by decide +kernel
theorem d_M_readPart_114 : decode b_M_readPart 114 = .ok (.aload_n 0, 1) := by decide +kernel
theorem d_M_readPart_115 : decode b_M_readPart 115 = .ok (.bipush 40, 2) := by decide +kernel
theorem d_M_readPart_117 : decode b_M_readPart 117 = .ok (.invokevirtual 346, 3) := by decide +kernel
theorem d_M_readPart_120 : decode b_M_readPart 120 = .ok (.aload_n 0, 1) := by decide +kernel
theorem d_M_readPart_121 : decode b_M_readPart 121 = .ok (.getfield 72, 3) := by decide +kernel
theorem d_M_readPart_124 : decode b_M_readPart 124 = .ok (.iload_n 1, 1) := by decide +kernel
theorem d_M_readPart_125 : decode b_M_readPart 125 = .ok (.aload_n 0, 1) := by decide +kernel
theorem d_M_readPart_126 : decode b_M_readPart 126 = .ok (.getfield 336, 3) := by decide +kernel
theorem d_M_readPart_129 : decode b_M_readPart 129 = .ok (.iastore, 1) := by decide +kernel
theorem d_M_readPart_130 : decode b_M_readPart 130 = .ok (.aload_n 0, 1) := by decide +kernel
theorem d_M_readPart_131 : decode b_M_readPart 131 = .ok (.getfield 75, 3) := by decide +kernel
theorem d_M_readPart_134 : decode b_M_readPart 134 = .ok (.iload_n 1, 1) := by decide +kernel
theorem d_M_readPart_135 : decode b_M_readPart 135 = .ok (.iconst 0, 1) := by decide +kernel
theorem d_M_readPart_136 : decode b_M_readPart 136 = .ok (.iastore, 1) := by decide +kernel
theorem d_M_readPart_137 : decode b_M_readPart 137 = .ok (.aload_n 0, 1) := by decide +kernel
theorem d_M_readPart_138 : decode b_M_readPart 138 = .ok (.getfield 65, 3) := by decide +kernel
theorem d_M_readPart_141 : decode b_M_readPart 141 = .ok (.iload_n 1, 1) := by decide +kernel
theorem d_M_readPart_142 : decode b_M_readPart 142 = .ok (.iconst 0, 1) := by decide +kernel
theorem d_M_readPart_143 : decode b_M_readPart 143 = .ok (.bastore, 1) := by decide +kernel
theorem d_M_readPart_144 : decode b_M_readPart 144 = .ok (.aload_n 0, 1) := by decide +kernel
theorem d_M_readPart_145 : decode b_M_readPart 145 = .ok (.getfield 69, 3) := by decide +kernel
theorem d_M_readPart_148 : decode b_M_readPart 148 = .ok (.iload_n 1, 1) := by decide +kernel
theorem d_M_readPart_149 : decode b_M_readPart 149 = .ok (.iconst 0, 1) := by decide +kernel
theorem d_M_readPart_150 : decode b_M_readPart 150 = .ok (.bastore, 1) := by decide +kernel
theorem d_M_readPart_151 : decode b_M_readPart 151 = .ok (.iconst 1, 1) := by decide +kernel
theorem d_M_readPart_152 : decode b_M_readPart 152 = .ok (.istore_n 2, 1) := by decide +kernel
theorem d_M_readPart_153 : decode b_M_readPart 153 = .ok (.iload_n 2, 1) := by decide +kernel
theorem d_M_readPart_154 : decode b_M_readPart 154 = .ok (.ifCond .eq 115, 3) := by decide +kernel
theorem d_M_readPart_157 : decode b_M_readPart 157 = .ok (.aload_n 0, 1) := by decide +kernel
theorem d_M_readPart_158 : decode b_M_readPart 158 = .ok (.invokevirtual 303, 3) := by decide +kernel
theorem d_M_readPart_161 : decode b_M_readPart 161 = .ok (.ifCond .ne 108, 3) := by decide +kernel
theorem d_M_readPart_164 : decode b_M_readPart 164 = .ok (.aload_n 0, 1) := by decide +kernel
theorem d_M_readPart_165 : decode b_M_readPart 165 = .ok (.iload_n 1, 1) := by decide +kernel
theorem d_M_readPart_166 : decode b_M_readPart 166 = .ok (.invokevirtual 339, 3) := by decide +kernel
theorem d_M_readPart_169 : decode b_M_readPart 169 = .ok (.aload_n 0, 1) := by decide +kernel
theorem d_M_readPart_170 : decode b_M_readPart 170 = .ok (.getfield 75, 3) := by decide +kernel
theorem d_M_readPart_173 : decode b_M_readPart 173 = .ok (.iload_n 1, 1) := by decide +kernel
theorem d_M_readPart_174 : decode b_M_readPart 174 = .ok (.dup2, 1) := by decide +kernel
theorem d_M_readPart_175 : decode b_M_readPart 175 = .ok (.iaload, 1) := by decide +kernel
theorem d_M_readPart_176 : decode b_M_readPart 176 = .ok (.iconst 1, 1) := by decide +kernel
theorem d_M_readPart_177 : decode b_M_readPart 177 = .ok (.iadd, 1) := by decide +kernel
theorem d_M_readPart_178 : decode b_M_readPart 178 = .ok (.iastore, 1) := by decide +kernel
theorem d_M_readPart_179 : decode b_M_readPart 179 = .ok (.aload_n 0, 1) := by decide +kernel
theorem d_M_readPart_180 : decode b_M_readPart 180 = .ok (.getfield 75, 3) := by decide +kernel
theorem d_M_readPart_183 : decode b_M_readPart 183 = .ok (.iload_n 1, 1) := by decide +kernel
theorem d_M_readPart_184 : decode b_M_readPart 184 = .ok (.iaload, 1) := by decide +kernel
theorem d_M_readPart_185 : decode b_M_readPart 185 = .ok (.iconst 4, 1) := by decide +kernel
theorem d_M_readPart_186 : decode b_M_readPart 186 = .ok (.if_icmp .ge 16, 3) := by decide +kernel
theorem d_M_readPart_189 : decode b_M_readPart 189 = .ok (.aload_n 0, 1) := by decide +kernel
theorem d_M_readPart_190 : decode b_M_readPart 190 = .ok (.bipush 12, 2) := by decide +kernel
theorem d_M_readPart_192 : decode b_M_readPart 192 = .ok (.invokevirtual 320, 3) := by decide +kernel
theorem d_M_readPart_195 : decode b_M_readPart 195 = .ok (.ifCond .eq 7, 3) := by decide +kernel
theorem d_M_readPart_198 : decode b_M_readPart 198 = .ok (.iconst 1, 1) := by decide +kernel
theorem d_M_readPart_199 : decode b_M_readPart 199 = .ok (.goto 4, 3) := by decide +kernel
theorem d_M_readPart_202 : decode b_M_readPart 202 = .ok (.iconst 0, 1) := by decide +kernel
theorem d_M_readPart_203 : decode b_M_readPart 203 = .ok (.istore_n 2, 1) := by decide +kernel
theorem d_M_readPart_204 : decode b_M_readPart 204 = .ok (.iload_n 2, 1) := by decide +kernel
theorem d_M_readPart_205 : decode b_M_readPart 205 = .ok (.ifCond .ne 6, 3) := by decide +kernel
theorem d_M_readPart_208 : decode b_M_readPart 208 = .ok (.goto (-55), 3) := by decide +kernel
theorem d_M_readPart_211 : decode b_M_readPart 211 = .ok (.aload_n 0, 1) := by decide +kernel
theorem d_M_readPart_212 : decode b_M_readPart 212 = .ok (.bipush 13, 2) := by decide +kernel
theorem d_M_readPart_214 : decode b_M_readPart 214 = .ok (.invokevirtual 320, 3) := by decide +kernel
theorem d_M_readPart_217 : decode b_M_readPart 217 = .ok (.istore_n 3, 1) := by decide +kernel
theorem d_M_readPart_218 : decode b_M_readPart 218 = .ok (.aload_n 0, 1) := by decide +kernel
theorem d_M_readPart_219 : decode b_M_readPart 219 = .ok (.getfield 69, 3) := by decide +kernel
theorem d_M_readPart_222 : decode b_M_readPart 222 = .ok (.iload_n 1, 1) := by decide +kernel
theorem d_M_readPart_223 : decode b_M_readPart 223 = .ok (.aload_n 0, 1) := by decide +kernel
theorem d_M_readPart_224 : decode b_M_readPart 224 = .ok (.getfield 69, 3) := by decide +kernel
theorem d_M_readPart_227 : decode b_M_readPart 227 = .ok (.iload_n 1, 1) := by decide +kernel
theorem d_M_readPart_228 : decode b_M_readPart 228 = .ok (.baload, 1) := by decide +kernel
theorem d_M_readPart_229 : decode b_M_readPart 229 = .ok (.ifCond .ne 7, 3) := by decide +kernel
theorem d_M_readPart_232 : decode b_M_readPart 232 = .ok (.iload_n 3, 1) := by decide +kernel
theorem d_M_readPart_233 : decode b_M_readPart 233 = .ok (.ifCond .eq 7, 3) := by decide +kernel
theorem d_M_readPart_236 : decode b_M_readPart 236 = .ok (.iconst 1, 1) := by decide +kernel
theorem d_M_readPart_237 : decode b_M_readPart 237 = .ok (.goto 4, 3) := by decide +kernel
theorem d_M_readPart_240 : decode b_M_readPart 240 = .ok (.iconst 0, 1) := by decide +kernel
theorem d_M_readPart_241 : decode b_M_readPart 241 = .ok (.bastore, 1) := by decide +kernel
theorem d_M_readPart_242 : decode b_M_readPart 242 = .ok (.aload_n 0, 1) := by decide +kernel
theorem d_M_readPart_243 : decode b_M_readPart 243 = .ok (.getfield 65, 3) := by decide +kernel
theorem d_M_readPart_246 : decode b_M_readPart 246 = .ok (.iload_n 1, 1) := by decide +kernel
theorem d_M_readPart_247 : decode b_M_readPart 247 = .ok (.aload_n 0, 1) := by decide +kernel
theorem d_M_readPart_248 : decode b_M_readPart 248 = .ok (.getfield 65, 3) := by decide +kernel
theorem d_M_readPart_251 : decode b_M_readPart 251 = .ok (.iload_n 1, 1) := by decide +kernel
theorem d_M_readPart_252 : decode b_M_readPart 252 = .ok (.baload, 1) := by decide +kernel
theorem d_M_readPart_253 : decode b_M_readPart 253 = .ok (.ifCond .ne 7, 3) := by decide +kernel
theorem d_M_readPart_256 : decode b_M_readPart 256 = .ok (.iload_n 3, 1) := by decide +kernel
theorem d_M_readPart_257 : decode b_M_readPart 257 = .ok (.ifCond .ne 7, 3) := by decide +kernel
theorem d_M_readPart_260 : decode b_M_readPart 260 = .ok (.iconst 1, 1) := by decide +kernel
theorem d_M_readPart_261 : decode b_M_readPart 261 = .ok (.goto 4, 3) := by decide +kernel
theorem d_M_readPart_264 : decode b_M_readPart 264 = .ok (.iconst 0, 1) := by decide +kernel
theorem d_M_readPart_265 : decode b_M_readPart 265 = .ok (.bastore, 1) := by decide +kernel
theorem d_M_readPart_266 : decode b_M_readPart 266 = .ok (.goto (-113), 3) := by decide +kernel
theorem d_M_readPart_269 : decode b_M_readPart 269 = .ok (.aload_n 0, 1) := by decide +kernel
theorem d_M_readPart_270 : decode b_M_readPart 270 = .ok (.bipush 41, 2) := by decide +kernel
theorem d_M_readPart_272 : decode b_M_readPart 272 = .ok (.invokevirtual 346, 3) := by decide +kernel
theorem d_M_readPart_275 : decode b_M_readPart 275 = .ok (.aload_n 0, 1) := by decide +kernel
theorem d_M_readPart_276 : decode b_M_readPart 276 = .ok (.iload_n 1, 1) := by decide +kernel
theorem d_M_readPart_277 : decode b_M_readPart 277 = .ok (.invokevirtual 349, 3) := by decide +kernel
theorem d_M_readPart_280 : decode b_M_readPart 280 = .ok (.aload_n 0, 1) := by decide +kernel
theorem d_M_readPart_281 : decode b_M_readPart 281 = .ok (.dup, 1) := by decide +kernel
theorem d_M_readPart_282 : decode b_M_readPart 282 = .ok (.getfield 330, 3) := by decide +kernel
theorem d_M_readPart_285 : decode b_M_readPart 285 = .ok (.iconst 1, 1) := by decide +kernel
theorem d_M_readPart_286 : decode b_M_readPart 286 = .ok (.iadd, 1) := by decide +kernel
theorem d_M_readPart_287 : decode b_M_readPart 287 = .ok (.putfield 330, 3) := by decide +kernel
theorem d_M_readPart_290 : decode b_M_readPart 290 = .ok (.return_, 1) := by decide +kernel
theorem d_M_readOrder_0 : decode b_M_readOrder 0 = .ok (.aload_n 0, 1) := by decide +kernel
theorem d_M_readOrder_1 : decode b_M_readOrder 1 = .ok (.aload_n 0, 1) := by decide +kernel
theorem d_M_readOrder_2 : decode b_M_readOrder 2 = .ok (.getfield 307, 3) := by decide +kernel
theorem d_M_readOrder_5 : decode b_M_readOrder 5 = .ok (.putfield 389, 3) := by decide +kernel
theorem d_M_readOrder_8 : decode b_M_readOrder 8 = .ok (.aload_n 0, 1) := by decide +kernel
theorem d_M_readOrder_9 : decode b_M_readOrder 9 = .ok (.dup, 1) := by decide +kernel
theorem d_M_readOrder_10 : decode b_M_readOrder 10 = .ok (.getfield 307, 3) := by decide +kernel
theorem d_M_readOrder_13 : decode b_M_readOrder 13 = .ok (.iconst 1, 1) := by decide +kernel
theorem d_M_readOrder_14 : decode b_M_readOrder 14 = .ok (.iadd, 1) := by decide +kernel
theorem d_M_readOrder_15 : decode b_M_readOrder 15 = .ok (.putfield 307, 3) := by decide +kernel
theorem d_M_readOrder_18 : decode b_M_readOrder 18 = .ok (.aload_n 0, 1) := by decide +kernel
theorem d_M_readOrder_19 : decode b_M_readOrder 19 = .ok (.bipush 18, 2) := by decide +kernel
theorem d_M_readOrder_21 : decode b_M_readOrder 21 = .ok (.invokevirtual 317, 3) := by decide +kernel
theorem d_M_readOrder_24 : decode b_M_readOrder 24 = .ok (.pop, 1) := by decide +kernel
theorem d_M_readOrder_25 : decode b_M_readOrder 25 = .ok (.iconst 1, 1) := by decide +kernel
theorem d_M_readOrder_26 : decode b_M_readOrder 26 = .ok (.istore_n 1, 1) := by decide +kernel
theorem d_M_readOrder_27 : decode b_M_readOrder 27 = .ok (.iload_n 1, 1) := by decide +kernel
theorem d_M_readOrder_28 : decode b_M_readOrder 28 = .ok (.ifCond .eq 79, 3) := by decide +kernel
theorem d_M_readOrder_31 : decode b_M_readOrder 31 = .ok (.aload_n 0, 1) := by decide +kernel
theorem d_M_readOrder_32 : decode b_M_readOrder 32 = .ok (.invokevirtual 303, 3) := by decide +kernel
theorem d_M_readOrder_35 : decode b_M_readOrder 35 = .ok (.ifCond .ne 72, 3) := by decide +kernel
theorem d_M_readOrder_38 : decode b_M_readOrder 38 = .ok (.aload_n 0, 1) := by decide +kernel
theorem d_M_readOrder_39 : decode b_M_readOrder 39 = .ok (.getfield 162, 3) := by decide +kernel
theorem d_M_readOrder_42 : decode b_M_readOrder 42 = .ok (.aload_n 0, 1) := by decide +kernel
theorem d_M_readOrder_43 : decode b_M_readOrder 43 = .ok (.getfield 392, 3) := by decide +kernel
theorem d_M_readOrder_46 : decode b_M_readOrder 46 = .ok (.aload_n 0, 1) := by decide +kernel
theorem d_M_readOrder_47 : decode b_M_readOrder 47 = .ok (.getfield 307, 3) := by decide +kernel
theorem d_M_readOrder_50 : decode b_M_readOrder 50 = .ok (.iastore, 1) := by decide +kernel
theorem d_M_readOrder_51 : decode b_M_readOrder 51 = .ok (.aload_n 0, 1) := by decide +kernel
theorem d_M_readOrder_52 : decode b_M_readOrder 52 = .ok (.bipush 30, 2) := by decide +kernel
theorem d_M_readOrder_54 : decode b_M_readOrder 54 = .ok (.invokevirtual 317, 3) := by decide +kernel
theorem d_M_readOrder_57 : decode b_M_readOrder 57 = .ok (.pop, 1) := by decide +kernel
theorem d_M_readOrder_58 : decode b_M_readOrder 58 = .ok (.aload_n 0, 1) := by decide +kernel
theorem d_M_readOrder_59 : decode b_M_readOrder 59 = .ok (.bipush 46, 2) := by decide +kernel
theorem d_M_readOrder_61 : decode b_M_readOrder 61 = .ok (.invokevirtual 346, 3) := by decide +kernel
theorem d_M_readOrder_64 : decode b_M_readOrder 64 = .ok (.aload_n 0, 1) := by decide +kernel
theorem d_M_readOrder_65 : decode b_M_readOrder 65 = .ok (.bipush 30, 2) := by decide +kernel
theorem d_M_readOrder_67 : decode b_M_readOrder 67 = .ok (.invokevirtual 317, 3) := by decide +kernel
theorem d_M_readOrder_70 : decode b_M_readOrder 70 = .ok (.pop, 1) := by decide +kernel
theorem d_M_readOrder_71 : decode b_M_readOrder 71 = .ok (.aload_n 0, 1) := by decide +kernel
theorem d_M_readOrder_72 : decode b_M_readOrder 72 = .ok (.dup, 1) := by decide +kernel
theorem d_M_readOrder_73 : decode b_M_readOrder 73 = .ok (.getfield 392, 3) := by decide +kernel
theorem d_M_readOrder_76 : decode b_M_readOrder 76 = .ok (.iconst 1, 1) := by decide +kernel
theorem d_M_readOrder_77 : decode b_M_readOrder 77 = .ok (.iadd, 1) := by decide +kernel
theorem d_M_readOrder_78 : decode b_M_readOrder 78 = .ok (.putfield 392, 3) := by decide +kernel
theorem d_M_readOrder_81 : decode b_M_readOrder 81 = .ok (.aload_n 0, 1) := by decide +kernel
theorem d_M_readOrder_82 : decode b_M_readOrder 82 = .ok (.getfield 392, 3) := by decide +kernel
theorem d_M_readOrder_85 : decode b_M_readOrder 85 = .ok (.iconst 2, 1) := by decide +kernel
theorem d_M_readOrder_86 : decode b_M_readOrder 86 = .ok (.if_icmp .ge 16, 3) := by decide +kernel
theorem d_M_readOrder_89 : decode b_M_readOrder 89 = .ok (.aload_n 0, 1) := by decide +kernel
theorem d_M_readOrder_90 : decode b_M_readOrder 90 = .ok (.bipush 44, 2) := by decide +kernel
theorem d_M_readOrder_92 : decode b_M_readOrder 92 = .ok (.invokevirtual 333, 3) := by decide +kernel
theorem d_M_readOrder_95 : decode b_M_readOrder 95 = .ok (.ifCond .eq 7, 3) := by decide +kernel
theorem d_M_readOrder_98 : decode b_M_readOrder 98 = .ok (.iconst 1, 1) := by decide +kernel
theorem d_M_readOrder_99 : decode b_M_readOrder 99 = .ok (.goto 4, 3) := by decide +kernel
theorem d_M_readOrder_102 : decode b_M_readOrder 102 = .ok (.iconst 0, 1) := by decide +kernel
theorem d_M_readOrder_103 : decode b_M_readOrder 103 = .ok (.istore_n 1, 1) := by decide +kernel
theorem d_M_readOrder_104 : decode b_M_readOrder 104 = .ok (.goto (-77), 3) := by decide +kernel
theorem d_M_readOrder_107 : decode b_M_readOrder 107 = .ok (.return_, 1) := by decide +kernel
theorem d_M_readQuery_0 : decode b_M_readQuery 0 = .ok (.aload_n 0, 1) := by decide +kernel
theorem d_M_readQuery_1 : decode b_M_readQuery 1 = .ok (.iconst 0, 1) := by decide +kernel
theorem d_M_readQuery_2 : decode b_M_readQuery 2 = .ok (.putfield 323, 3) := by decide +kernel
theorem d_M_readQuery_5 : decode b_M_readQuery 5 = .ok (.aload_n 0, 1) := by decide +kernel
theorem d_M_readQuery_6 : decode b_M_readQuery 6 = .ok (.iconst 1, 1) := by decide +kernel
theorem d_M_readQuery_7 : decode b_M_readQuery 7 = .ok (.invokevirtual 320, 3) := by decide +kernel
theorem d_M_readQuery_10 : decode b_M_readQuery 10 = .ok (.ifCond .eq 55, 3) := by decide +kernel
theorem d_M_readQuery_13 : decode b_M_readQuery 13 = .ok (.aload_n 0, 1) := by decide +kernel
theorem d_M_readQuery_14 : decode b_M_readQuery 14 = .ok (.aload_n 0, 1) := by decide +kernel
theorem d_M_readQuery_15 : decode b_M_readQuery 15 = .ok (.iconst 2, 1) := by decide +kernel
theorem d_M_readQuery_16 : decode b_M_readQuery 16 = .ok (.invokevirtual 320, 3) := by decide +kernel
theorem d_M_readQuery_19 : decode b_M_readQuery 19 = .ok (.putfield 323, 3) := by decide +kernel
theorem d_M_readQuery_22 : decode b_M_readQuery 22 = .ok (.iconst 1, 1) := by decide +kernel
theorem d_M_readQuery_23 : decode b_M_readQuery 23 = .ok (.istore_n 1, 1) := by decide +kernel
theorem d_M_readQuery_24 : decode b_M_readQuery 24 = .ok (.iload_n 1, 1) := by decide +kernel
theorem d_M_readQuery_25 : decode b_M_readQuery 25 = .ok (.ifCond .eq 40, 3) := by decide +kernel
theorem d_M_readQuery_28 : decode b_M_readQuery 28 = .ok (.aload_n 0, 1) := by decide +kernel
theorem d_M_readQuery_29 : decode b_M_readQuery 29 = .ok (.invokevirtual 303, 3) := by decide +kernel
theorem d_M_readQuery_32 : decode b_M_readQuery 32 = .ok (.ifCond .ne 33, 3) := by decide +kernel
theorem d_M_readQuery_35 : decode b_M_readQuery 35 = .ok (.aload_n 0, 1) := by decide +kernel
theorem d_M_readQuery_36 : decode b_M_readQuery 36 = .ok (.invokevirtual 327, 3) := by decide +kernel
theorem d_M_readQuery_39 : decode b_M_readQuery 39 = .ok (.aload_n 0, 1) := by decide +kernel
theorem d_M_readQuery_40 : decode b_M_readQuery 40 = .ok (.getfield 330, 3) := by decide +kernel
theorem d_M_readQuery_43 : decode b_M_readQuery 43 = .ok (.iconst 4, 1) := by decide +kernel
theorem d_M_readQuery_44 : decode b_M_readQuery 44 = .ok (.if_icmp .ge 16, 3) := by decide +kernel
theorem d_M_readQuery_47 : decode b_M_readQuery 47 = .ok (.aload_n 0, 1) := by decide +kernel
theorem d_M_readQuery_48 : decode b_M_readQuery 48 = .ok (.bipush 44, 2) := by decide +kernel
theorem d_M_readQuery_50 : decode b_M_readQuery 50 = .ok (.invokevirtual 333, 3) := by decide +kernel
theorem d_M_readQuery_53 : decode b_M_readQuery 53 = .ok (.ifCond .eq 7, 3) := by decide +kernel
theorem d_M_readQuery_56 : decode b_M_readQuery 56 = .ok (.iconst 1, 1) := by decide +kernel
theorem d_M_readQuery_57 : decode b_M_readQuery 57 = .ok (.goto 4, 3) := by decide +kernel
theorem d_M_readQuery_60 : decode b_M_readQuery 60 = .ok (.iconst 0, 1) := by decide +kernel
theorem d_M_readQuery_61 : decode b_M_readQuery 61 = .ok (.istore_n 1, 1) := by decide +kernel
theorem d_M_readQuery_62 : decode b_M_readQuery 62 = .ok (.goto (-38), 3) := by decide +kernel
theorem d_M_readQuery_65 : decode b_M_readQuery 65 = .ok (.aload_n 0, 1) := by decide +kernel
theorem d_M_readQuery_66 : decode b_M_readQuery 66 = .ok (.getfield 72, 3) := by decide +kernel
theorem d_M_readQuery_69 : decode b_M_readQuery 69 = .ok (.iconst 4, 1) := by decide +kernel
theorem d_M_readQuery_70 : decode b_M_readQuery 70 = .ok (.aload_n 0, 1) := by decide +kernel
theorem d_M_readQuery_71 : decode b_M_readQuery 71 = .ok (.getfield 336, 3) := by decide +kernel
theorem d_M_readQuery_74 : decode b_M_readQuery 74 = .ok (.iastore, 1) := by decide +kernel
theorem d_M_readQuery_75 : decode b_M_readQuery 75 = .ok (.aload_n 0, 1) := by decide +kernel
theorem d_M_readQuery_76 : decode b_M_readQuery 76 = .ok (.iconst 4, 1) := by decide +kernel
theorem d_M_readQuery_77 : decode b_M_readQuery 77 = .ok (.invokevirtual 339, 3) := by decide +kernel
theorem d_M_readQuery_80 : decode b_M_readQuery 80 = .ok (.aload_n 0, 1) := by decide +kernel
theorem d_M_readQuery_81 : decode b_M_readQuery 81 = .ok (.bipush 25, 2) := by decide +kernel
theorem d_M_readQuery_83 : decode b_M_readQuery 83 = .ok (.invokevirtual 310, 3) := by decide +kernel
theorem d_M_readQuery_86 : decode b_M_readQuery 86 = .ok (.ifCond .eq 7, 3) := by decide +kernel
theorem d_M_readQuery_89 : decode b_M_readQuery 89 = .ok (.aload_n 0, 1) := by decide +kernel
theorem d_M_readQuery_90 : decode b_M_readQuery 90 = .ok (.invokevirtual 343, 3) := by decide +kernel
theorem d_M_readQuery_93 : decode b_M_readQuery 93 = .ok (.aload_n 0, 1) := by decide +kernel
theorem d_M_readQuery_94 : decode b_M_readQuery 94 = .ok (.bipush 99, 2) := by decide +kernel
theorem d_M_readQuery_96 : decode b_M_readQuery 96 = .ok (.invokevirtual 317, 3) := by decide +kernel
theorem d_M_readQuery_99 : decode b_M_readQuery 99 = .ok (.pop, 1) := by decide +kernel
theorem d_M_readQuery_100 : decode b_M_readQuery 100 = .ok (.return_, 1) := by decide +kernel
theorem d_M_meaning_0 : decode b_M_meaning 0 = .ok (.iconst 0, 1) := by decide +kernel
theorem d_M_meaning_1 : decode b_M_meaning 1 = .ok (.istore_n 2, 1) := by decide +kernel
theorem d_M_meaning_2 : decode b_M_meaning 2 = .ok (.iload_n 2, 1) := by decide +kernel
theorem d_M_meaning_3 : decode b_M_meaning 3 = .ok (.aload_n 0, 1) := by decide +kernel
theorem d_M_meaning_4 : decode b_M_meaning 4 = .ok (.getfield 330, 3) := by decide +kernel
theorem d_M_meaning_7 : decode b_M_meaning 7 = .ok (.if_icmp .ge 35, 3) := by decide +kernel
theorem d_M_meaning_10 : decode b_M_meaning 10 = .ok (.aload_n 0, 1) := by decide +kernel
theorem d_M_meaning_11 : decode b_M_meaning 11 = .ok (.getfield 32, 3) := by decide +kernel
theorem d_M_meaning_14 : decode b_M_meaning 14 = .ok (.aload_n 0, 1) := by decide +kernel
theorem d_M_meaning_15 : decode b_M_meaning 15 = .ok (.getfield 35, 3) := by decide +kernel
theorem d_M_meaning_18 : decode b_M_meaning 18 = .ok (.iload_n 2, 1) := by decide +kernel
theorem d_M_meaning_19 : decode b_M_meaning 19 = .ok (.iaload, 1) := by decide +kernel
theorem d_M_meaning_20 : decode b_M_meaning 20 = .ok (.laload, 1) := by decide +kernel
theorem d_M_meaning_21 : decode b_M_meaning 21 = .ok (.aload_n 0, 1) := by decide +kernel
theorem d_M_meaning_22 : decode b_M_meaning 22 = .ok (.getfield 32, 3) := by decide +kernel
theorem d_M_meaning_25 : decode b_M_meaning 25 = .ok (.iload_n 1, 1) := by decide +kernel
theorem d_M_meaning_26 : decode b_M_meaning 26 = .ok (.laload, 1) := by decide +kernel
theorem d_M_meaning_27 : decode b_M_meaning 27 = .ok (.lcmp, 1) := by decide +kernel
theorem d_M_meaning_28 : decode b_M_meaning 28 = .ok (.ifCond .ne 8, 3) := by decide +kernel
theorem d_M_meaning_31 : decode b_M_meaning 31 = .ok (.bipush 10, 2) := by decide +kernel
theorem d_M_meaning_33 : decode b_M_meaning 33 = .ok (.iload_n 2, 1) := by decide +kernel
theorem d_M_meaning_34 : decode b_M_meaning 34 = .ok (.iadd, 1) := by decide +kernel
theorem d_M_meaning_35 : decode b_M_meaning 35 = .ok (.ireturn, 1) := by decide +kernel
theorem d_M_meaning_36 : decode b_M_meaning 36 = .ok (.iinc 2 1, 3) := by decide +kernel
theorem d_M_meaning_39 : decode b_M_meaning 39 = .ok (.goto (-37), 3) := by decide +kernel
theorem d_M_meaning_42 : decode b_M_meaning 42 = .ok (.iconst 0, 1) := by decide +kernel
theorem d_M_meaning_43 : decode b_M_meaning 43 = .ok (.istore_n 2, 1) := by decide +kernel
theorem d_M_meaning_44 : decode b_M_meaning 44 = .ok (.iload_n 2, 1) := by decide +kernel
theorem d_M_meaning_45 : decode b_M_meaning 45 = .ok (.aload_n 0, 1) := by decide +kernel
theorem d_M_meaning_46 : decode b_M_meaning 46 = .ok (.getfield 250, 3) := by decide +kernel
theorem d_M_meaning_49 : decode b_M_meaning 49 = .ok (.if_icmp .ge 27, 3) := by decide +kernel
theorem d_M_meaning_52 : decode b_M_meaning 52 = .ok (.aload_n 0, 1) := by decide +kernel
theorem d_M_meaning_53 : decode b_M_meaning 53 = .ok (.getfield 32, 3) := by decide +kernel
theorem d_M_meaning_56 : decode b_M_meaning 56 = .ok (.iload_n 1, 1) := by decide +kernel
theorem d_M_meaning_57 : decode b_M_meaning 57 = .ok (.laload, 1) := by decide +kernel
theorem d_M_meaning_58 : decode b_M_meaning 58 = .ok (.ldc2_w 395, 3) := by decide +kernel
theorem d_M_meaning_61 : decode b_M_meaning 61 = .ok (.iload_n 2, 1) := by decide +kernel
theorem d_M_meaning_62 : decode b_M_meaning 62 = .ok (.i2l, 1) := by decide +kernel
theorem d_M_meaning_63 : decode b_M_meaning 63 = .ok (.ladd, 1) := by decide +kernel
theorem d_M_meaning_64 : decode b_M_meaning 64 = .ok (.lcmp, 1) := by decide +kernel
theorem d_M_meaning_65 : decode b_M_meaning 65 = .ok (.ifCond .ne 5, 3) := by decide +kernel
theorem d_M_meaning_68 : decode b_M_meaning 68 = .ok (.iload_n 2, 1) := by decide +kernel
theorem d_M_meaning_69 : decode b_M_meaning 69 = .ok (.ireturn, 1) := by decide +kernel
theorem d_M_meaning_70 : decode b_M_meaning 70 = .ok (.iinc 2 1, 3) := by decide +kernel
theorem d_M_meaning_73 : decode b_M_meaning 73 = .ok (.goto (-29), 3) := by decide +kernel
theorem d_M_meaning_76 : decode b_M_meaning 76 = .ok (.iconst (-1), 1) := by decide +kernel
theorem d_M_meaning_77 : decode b_M_meaning 77 = .ok (.ireturn, 1) := by decide +kernel
theorem d_M_columnOf_0 : decode b_M_columnOf 0 = .ok (.iload_n 1, 1) := by decide +kernel
theorem d_M_columnOf_1 : decode b_M_columnOf 1 = .ok (.iconst (-1), 1) := by decide +kernel
theorem d_M_columnOf_2 : decode b_M_columnOf 2 = .ok (.if_icmp .ne 5, 3) := by decide +kernel
theorem d_M_columnOf_5 : decode b_M_columnOf 5 = .ok (.iconst (-1), 1) := by decide +kernel
theorem d_M_columnOf_6 : decode b_M_columnOf 6 = .ok (.ireturn, 1) := by decide +kernel
theorem d_M_columnOf_7 : decode b_M_columnOf 7 = .ok (.iload_n 1, 1) := by decide +kernel
theorem d_M_columnOf_8 : decode b_M_columnOf 8 = .ok (.bipush 10, 2) := by decide +kernel
theorem d_M_columnOf_10 : decode b_M_columnOf 10 = .ok (.if_icmp .ge 30, 3) := by decide +kernel
theorem d_M_columnOf_13 : decode b_M_columnOf 13 = .ok (.lload_n 2, 1) := by decide +kernel
theorem d_M_columnOf_14 : decode b_M_columnOf 14 = .ok (.lconst 1, 1) := by decide +kernel
theorem d_M_columnOf_15 : decode b_M_columnOf 15 = .ok (.lcmp, 1) := by decide +kernel
theorem d_M_columnOf_16 : decode b_M_columnOf 16 = .ok (.ifCond .lt 22, 3) := by decide +kernel
theorem d_M_columnOf_19 : decode b_M_columnOf 19 = .ok (.lload_n 2, 1) := by decide +kernel
theorem d_M_columnOf_20 : decode b_M_columnOf 20 = .ok (.aload_n 0, 1) := by decide +kernel
theorem d_M_columnOf_21 : decode b_M_columnOf 21 = .ok (.getfield 7, 3) := by decide +kernel
theorem d_M_columnOf_24 : decode b_M_columnOf 24 = .ok (.iload_n 1, 1) := by decide +kernel
theorem d_M_columnOf_25 : decode b_M_columnOf 25 = .ok (.iaload, 1) := by decide +kernel
theorem d_M_columnOf_26 : decode b_M_columnOf 26 = .ok (.i2l, 1) := by decide +kernel
theorem d_M_columnOf_27 : decode b_M_columnOf 27 = .ok (.lcmp, 1) := by decide +kernel
theorem d_M_columnOf_28 : decode b_M_columnOf 28 = .ok (.ifCond .gt 10, 3) := by decide +kernel
theorem d_M_columnOf_31 : decode b_M_columnOf 31 = .ok (.lload_n 2, 1) := by decide +kernel
theorem d_M_columnOf_32 : decode b_M_columnOf 32 = .ok (.l2i, 1) := by decide +kernel
theorem d_M_columnOf_33 : decode b_M_columnOf 33 = .ok (.iconst 1, 1) := by decide +kernel
theorem d_M_columnOf_34 : decode b_M_columnOf 34 = .ok (.isub, 1) := by decide +kernel
theorem d_M_columnOf_35 : decode b_M_columnOf 35 = .ok (.goto 4, 3) := by decide +kernel
theorem d_M_columnOf_38 : decode b_M_columnOf 38 = .ok (.iconst (-1), 1) := by decide +kernel
theorem d_M_columnOf_39 : decode b_M_columnOf 39 = .ok (.ireturn, 1) := by decide +kernel
theorem d_M_columnOf_40 : decode b_M_columnOf 40 = .ok (.iload_n 1, 1) := by decide +kernel
theorem d_M_columnOf_41 : decode b_M_columnOf 41 = .ok (.bipush 10, 2) := by decide +kernel
theorem d_M_columnOf_43 : decode b_M_columnOf 43 = .ok (.isub, 1) := by decide +kernel
theorem d_M_columnOf_44 : decode b_M_columnOf 44 = .ok (.istore 5, 2) := by decide +kernel
theorem d_M_columnOf_46 : decode b_M_columnOf 46 = .ok (.iconst 0, 1) := by decide +kernel
theorem d_M_columnOf_47 : decode b_M_columnOf 47 = .ok (.istore 6, 2) := by decide +kernel
theorem d_M_columnOf_49 : decode b_M_columnOf 49 = .ok (.iload 6, 2) := by decide +kernel
theorem d_M_columnOf_51 : decode b_M_columnOf 51 = .ok (.aload_n 0, 1) := by decide +kernel
theorem d_M_columnOf_52 : decode b_M_columnOf 52 = .ok (.getfield 38, 3) := by decide +kernel
theorem d_M_columnOf_55 : decode b_M_columnOf 55 = .ok (.iload 5, 2) := by decide +kernel
theorem d_M_columnOf_57 : decode b_M_columnOf 57 = .ok (.iaload, 1) := by decide +kernel
theorem d_M_columnOf_58 : decode b_M_columnOf 58 = .ok (.if_icmp .ge 34, 3) := by decide +kernel
theorem d_M_columnOf_61 : decode b_M_columnOf 61 = .ok (.aload_n 0, 1) := by decide +kernel
theorem d_M_columnOf_62 : decode b_M_columnOf 62 = .ok (.getfield 32, 3) := by decide +kernel
theorem d_M_columnOf_65 : decode b_M_columnOf 65 = .ok (.aload_n 0, 1) := by decide +kernel
theorem d_M_columnOf_66 : decode b_M_columnOf 66 = .ok (.getfield 41, 3) := by decide +kernel
theorem d_M_columnOf_69 : decode b_M_columnOf 69 = .ok (.iconst 3, 1) := by decide +kernel
theorem d_M_columnOf_70 : decode b_M_columnOf 70 = .ok (.iload 5, 2) := by decide +kernel
theorem d_M_columnOf_72 : decode b_M_columnOf 72 = .ok (.imul, 1) := by decide +kernel
theorem d_M_columnOf_73 : decode b_M_columnOf 73 = .ok (.iload 6, 2) := by decide +kernel
theorem d_M_columnOf_75 : decode b_M_columnOf 75 = .ok (.iadd, 1) := by decide +kernel
theorem d_M_columnOf_76 : decode b_M_columnOf 76 = .ok (.iaload, 1) := by decide +kernel
theorem d_M_columnOf_77 : decode b_M_columnOf 77 = .ok (.laload, 1) := by decide +kernel
theorem d_M_columnOf_78 : decode b_M_columnOf 78 = .ok (.lload_n 2, 1) := by decide +kernel
theorem d_M_columnOf_79 : decode b_M_columnOf 79 = .ok (.lcmp, 1) := by decide +kernel
theorem d_M_columnOf_80 : decode b_M_columnOf 80 = .ok (.ifCond .ne 6, 3) := by decide +kernel
theorem d_M_columnOf_83 : decode b_M_columnOf 83 = .ok (.iload 6, 2) := by decide +kernel
theorem d_M_columnOf_85 : decode b_M_columnOf 85 = .ok (.ireturn, 1) := by decide +kernel
theorem d_M_columnOf_86 : decode b_M_columnOf 86 = .ok (.iinc 6 1, 3) := by decide +kernel
theorem d_M_columnOf_89 : decode b_M_columnOf 89 = .ok (.goto (-40), 3) := by decide +kernel
theorem d_M_columnOf_92 : decode b_M_columnOf 92 = .ok (.aload_n 0, 1) := by decide +kernel
theorem d_M_columnOf_93 : decode b_M_columnOf 93 = .ok (.getfield 53, 3) := by decide +kernel
theorem d_M_columnOf_96 : decode b_M_columnOf 96 = .ok (.iload 5, 2) := by decide +kernel
theorem d_M_columnOf_98 : decode b_M_columnOf 98 = .ok (.iaload, 1) := by decide +kernel
theorem d_M_columnOf_99 : decode b_M_columnOf 99 = .ok (.iconst (-1), 1) := by decide +kernel
theorem d_M_columnOf_100 : decode b_M_columnOf 100 = .ok (.if_icmp .eq 28, 3) := by decide +kernel
theorem d_M_columnOf_103 : decode b_M_columnOf 103 = .ok (.aload_n 0, 1) := by decide +kernel
theorem d_M_columnOf_104 : decode b_M_columnOf 104 = .ok (.getfield 32, 3) := by decide +kernel
theorem d_M_columnOf_107 : decode b_M_columnOf 107 = .ok (.aload_n 0, 1) := by decide +kernel
theorem d_M_columnOf_108 : decode b_M_columnOf 108 = .ok (.getfield 56, 3) := by decide +kernel
theorem d_M_columnOf_111 : decode b_M_columnOf 111 = .ok (.iload 5, 2) := by decide +kernel
theorem d_M_columnOf_113 : decode b_M_columnOf 113 = .ok (.iaload, 1) := by decide +kernel
theorem d_M_columnOf_114 : decode b_M_columnOf 114 = .ok (.laload, 1) := by decide +kernel
theorem d_M_columnOf_115 : decode b_M_columnOf 115 = .ok (.lload_n 2, 1) := by decide +kernel
theorem d_M_columnOf_116 : decode b_M_columnOf 116 = .ok (.lcmp, 1) := by decide +kernel
theorem d_M_columnOf_117 : decode b_M_columnOf 117 = .ok (.ifCond .ne 11, 3) := by decide +kernel
theorem d_M_columnOf_120 : decode b_M_columnOf 120 = .ok (.aload_n 0, 1) := by decide +kernel
theorem d_M_columnOf_121 : decode b_M_columnOf 121 = .ok (.getfield 38, 3) := by decide +kernel
theorem d_M_columnOf_124 : decode b_M_columnOf 124 = .ok (.iload 5, 2) := by decide +kernel
theorem d_M_columnOf_126 : decode b_M_columnOf 126 = .ok (.iaload, 1) := by decide +kernel
theorem d_M_columnOf_127 : decode b_M_columnOf 127 = .ok (.ireturn, 1) := by decide +kernel
theorem d_M_columnOf_128 : decode b_M_columnOf 128 = .ok (.iload 4, 2) := by decide +kernel
theorem d_M_columnOf_130 : decode b_M_columnOf 130 = .ok (.ifCond .eq 35, 3) := by decide +kernel
theorem d_M_columnOf_133 : decode b_M_columnOf 133 = .ok (.aload_n 0, 1) := by decide +kernel
theorem d_M_columnOf_134 : decode b_M_columnOf 134 = .ok (.getfield 44, 3) := by decide +kernel
theorem d_M_columnOf_137 : decode b_M_columnOf 137 = .ok (.iload 5, 2) := by decide +kernel
theorem d_M_columnOf_139 : decode b_M_columnOf 139 = .ok (.iaload, 1) := by decide +kernel
theorem d_M_columnOf_140 : decode b_M_columnOf 140 = .ok (.ifCond .le 25, 3) := by decide +kernel
theorem d_M_columnOf_143 : decode b_M_columnOf 143 = .ok (.aload_n 0, 1) := by decide +kernel
theorem d_M_columnOf_144 : decode b_M_columnOf 144 = .ok (.getfield 32, 3) := by decide +kernel
theorem d_M_columnOf_147 : decode b_M_columnOf 147 = .ok (.aload_n 0, 1) := by decide +kernel
theorem d_M_columnOf_148 : decode b_M_columnOf 148 = .ok (.getfield 50, 3) := by decide +kernel
theorem d_M_columnOf_151 : decode b_M_columnOf 151 = .ok (.iload 5, 2) := by decide +kernel
theorem d_M_columnOf_153 : decode b_M_columnOf 153 = .ok (.iaload, 1) := by decide +kernel
theorem d_M_columnOf_154 : decode b_M_columnOf 154 = .ok (.laload, 1) := by decide +kernel
theorem d_M_columnOf_155 : decode b_M_columnOf 155 = .ok (.lload_n 2, 1) := by decide +kernel
theorem d_M_columnOf_156 : decode b_M_columnOf 156 = .ok (.lcmp, 1) := by decide +kernel
theorem d_M_columnOf_157 : decode b_M_columnOf 157 = .ok (.ifCond .ne 8, 3) := by decide +kernel
theorem d_M_columnOf_160 : decode b_M_columnOf 160 = .ok (.bipush 100, 2) := by decide +kernel
theorem d_M_columnOf_162 : decode b_M_columnOf 162 = .ok (.goto 4, 3) := by decide +kernel
theorem d_M_columnOf_165 : decode b_M_columnOf 165 = .ok (.iconst (-1), 1) := by decide +kernel
theorem d_M_columnOf_166 : decode b_M_columnOf 166 = .ok (.ireturn, 1) := by decide +kernel
theorem d_M_slotOf_0 : decode b_M_slotOf 0 = .ok (.iconst 0, 1) := by decide +kernel
theorem d_M_slotOf_1 : decode b_M_slotOf 1 = .ok (.istore 5, 2) := by decide +kernel
theorem d_M_slotOf_3 : decode b_M_slotOf 3 = .ok (.iload 5, 2) := by decide +kernel
theorem d_M_slotOf_5 : decode b_M_slotOf 5 = .ok (.aload_n 0, 1) := by decide +kernel
theorem d_M_slotOf_6 : decode b_M_slotOf 6 = .ok (.getfield 93, 3) := by decide +kernel
theorem d_M_slotOf_9 : decode b_M_slotOf 9 = .ok (.iload_n 1, 1) := by decide +kernel
theorem d_M_slotOf_10 : decode b_M_slotOf 10 = .ok (.iaload, 1) := by decide +kernel
theorem d_M_slotOf_11 : decode b_M_slotOf 11 = .ok (.if_icmp .ge 36, 3) := by decide +kernel
theorem d_M_slotOf_14 : decode b_M_slotOf 14 = .ok (.aload_n 0, 1) := by decide +kernel
theorem d_M_slotOf_15 : decode b_M_slotOf 15 = .ok (.getfield 32, 3) := by decide +kernel
theorem d_M_slotOf_18 : decode b_M_slotOf 18 = .ok (.aload_n 0, 1) := by decide +kernel
theorem d_M_slotOf_19 : decode b_M_slotOf 19 = .ok (.getfield 135, 3) := by decide +kernel
theorem d_M_slotOf_22 : decode b_M_slotOf 22 = .ok (.aload_n 0, 1) := by decide +kernel
theorem d_M_slotOf_23 : decode b_M_slotOf 23 = .ok (.getfield 90, 3) := by decide +kernel
theorem d_M_slotOf_26 : decode b_M_slotOf 26 = .ok (.iload_n 1, 1) := by decide +kernel
theorem d_M_slotOf_27 : decode b_M_slotOf 27 = .ok (.iaload, 1) := by decide +kernel
theorem d_M_slotOf_28 : decode b_M_slotOf 28 = .ok (.iload 5, 2) := by decide +kernel
theorem d_M_slotOf_30 : decode b_M_slotOf 30 = .ok (.iadd, 1) := by decide +kernel
theorem d_M_slotOf_31 : decode b_M_slotOf 31 = .ok (.iaload, 1) := by decide +kernel
theorem d_M_slotOf_32 : decode b_M_slotOf 32 = .ok (.laload, 1) := by decide +kernel
theorem d_M_slotOf_33 : decode b_M_slotOf 33 = .ok (.lload_n 2, 1) := by decide +kernel
theorem d_M_slotOf_34 : decode b_M_slotOf 34 = .ok (.lcmp, 1) := by decide +kernel
theorem d_M_slotOf_35 : decode b_M_slotOf 35 = .ok (.ifCond .ne 6, 3) := by decide +kernel
theorem d_M_slotOf_38 : decode b_M_slotOf 38 = .ok (.iload 5, 2) := by decide +kernel
theorem d_M_slotOf_40 : decode b_M_slotOf 40 = .ok (.ireturn, 1) := by decide +kernel
theorem d_M_slotOf_41 : decode b_M_slotOf 41 = .ok (.iinc 5 1, 3) := by decide +kernel
theorem d_M_slotOf_44 : decode b_M_slotOf 44 = .ok (.goto (-41), 3) := by decide +kernel
theorem d_M_slotOf_47 : decode b_M_slotOf 47 = .ok (.iload 4, 2) := by decide +kernel
theorem d_M_slotOf_49 : decode b_M_slotOf 49 = .ok (.iconst (-1), 1) := by decide +kernel
theorem d_M_slotOf_50 : decode b_M_slotOf 50 = .ok (.if_icmp .eq 24, 3) := by decide +kernel
theorem d_M_slotOf_53 : decode b_M_slotOf 53 = .ok (.aload_n 0, 1) := by decide +kernel
theorem d_M_slotOf_54 : decode b_M_slotOf 54 = .ok (.getfield 32, 3) := by decide +kernel
theorem d_M_slotOf_57 : decode b_M_slotOf 57 = .ok (.aload_n 0, 1) := by decide +kernel
theorem d_M_slotOf_58 : decode b_M_slotOf 58 = .ok (.getfield 135, 3) := by decide +kernel
theorem d_M_slotOf_61 : decode b_M_slotOf 61 = .ok (.iload 4, 2) := by decide +kernel
theorem d_M_slotOf_63 : decode b_M_slotOf 63 = .ok (.iaload, 1) := by decide +kernel
theorem d_M_slotOf_64 : decode b_M_slotOf 64 = .ok (.laload, 1) := by decide +kernel
theorem d_M_slotOf_65 : decode b_M_slotOf 65 = .ok (.lload_n 2, 1) := by decide +kernel
theorem d_M_slotOf_66 : decode b_M_slotOf 66 = .ok (.lcmp, 1) := by decide +kernel
theorem d_M_slotOf_67 : decode b_M_slotOf 67 = .ok (.ifCond .ne 7, 3) := by decide +kernel
theorem d_M_slotOf_70 : decode b_M_slotOf 70 = .ok (.iconst 3, 1) := by decide +kernel
theorem d_M_slotOf_71 : decode b_M_slotOf 71 = .ok (.goto 4, 3) := by decide +kernel
theorem d_M_slotOf_74 : decode b_M_slotOf 74 = .ok (.iconst (-1), 1) := by decide +kernel
theorem d_M_slotOf_75 : decode b_M_slotOf 75 = .ok (.ireturn, 1) := by decide +kernel
theorem d_M_resolveSource_0 : decode b_M_resolveSource 0 = .ok (.aload_n 0, 1) := by decide +kernel
theorem d_M_resolveSource_1 : decode b_M_resolveSource 1 = .ok (.getfield 138, 3) := by decide +kernel
theorem d_M_resolveSource_4 : decode b_M_resolveSource 4 = .ok (.iload_n 2, 1) := by decide +kernel
theorem d_M_resolveSource_5 : decode b_M_resolveSource 5 = .ok (.aload_n 0, 1) := by decide +kernel
theorem d_M_resolveSource_6 : decode b_M_resolveSource 6 = .ok (.aload_n 0, 1) := by decide +kernel
theorem d_M_resolveSource_7 : decode b_M_resolveSource 7 = .ok (.getfield 132, 3) := by decide +kernel
theorem d_M_resolveSource_10 : decode b_M_resolveSource 10 = .ok (.iload_n 2, 1) := by decide +kernel
theorem d_M_resolveSource_11 : decode b_M_resolveSource 11 = .ok (.iaload, 1) := by decide +kernel
theorem d_M_resolveSource_12 : decode b_M_resolveSource 12 = .ok (.invokevirtual 397, 3) := by decide +kernel
theorem d_M_resolveSource_15 : decode b_M_resolveSource 15 = .ok (.iastore, 1) := by decide +kernel
theorem d_M_resolveSource_16 : decode b_M_resolveSource 16 = .ok (.aload_n 0, 1) := by decide +kernel
theorem d_M_resolveSource_17 : decode b_M_resolveSource 17 = .ok (.getfield 78, 3) := by decide +kernel
theorem d_M_resolveSource_20 : decode b_M_resolveSource 20 = .ok (.iload_n 1, 1) := by decide +kernel
theorem d_M_resolveSource_21 : decode b_M_resolveSource 21 = .ok (.iaload, 1) := by decide +kernel
theorem d_M_resolveSource_22 : decode b_M_resolveSource 22 = .ok (.istore_n 3, 1) := by decide +kernel
theorem d_M_resolveSource_23 : decode b_M_resolveSource 23 = .ok (.iload_n 3, 1) := by decide +kernel
theorem d_M_resolveSource_24 : decode b_M_resolveSource 24 = .ok (.iconst 4, 1) := by decide +kernel
theorem d_M_resolveSource_25 : decode b_M_resolveSource 25 = .ok (.if_icmp .ge 27, 3) := by decide +kernel
theorem d_M_resolveSource_28 : decode b_M_resolveSource 28 = .ok (.aload_n 0, 1) := by decide +kernel
theorem d_M_resolveSource_29 : decode b_M_resolveSource 29 = .ok (.getfield 323, 3) := by decide +kernel
theorem d_M_resolveSource_32 : decode b_M_resolveSource 32 = .ok (.ifCond .ne 20, 3) := by decide +kernel
theorem d_M_resolveSource_35 : decode b_M_resolveSource 35 = .ok (.aload_n 0, 1) := by decide +kernel
theorem d_M_resolveSource_36 : decode b_M_resolveSource 36 = .ok (.getfield 138, 3) := by decide +kernel
theorem d_M_resolveSource_39 : decode b_M_resolveSource 39 = .ok (.iload_n 2, 1) := by decide +kernel
theorem d_M_resolveSource_40 : decode b_M_resolveSource 40 = .ok (.iaload, 1) := by decide +kernel
theorem d_M_resolveSource_41 : decode b_M_resolveSource 41 = .ok (.bipush 10, 2) := by decide +kernel
theorem d_M_resolveSource_43 : decode b_M_resolveSource 43 = .ok (.iload_n 3, 1) := by decide +kernel
theorem d_M_resolveSource_44 : decode b_M_resolveSource 44 = .ok (.iadd, 1) := by decide +kernel
theorem d_M_resolveSource_45 : decode b_M_resolveSource 45 = .ok (.if_icmp .lt 7, 3) := by decide +kernel
theorem d_M_resolveSource_48 : decode b_M_resolveSource 48 = .ok (.iconst 1, 1) := by decide +kernel
theorem d_M_resolveSource_49 : decode b_M_resolveSource 49 = .ok (.goto 4, 3) := by decide +kernel
theorem d_M_resolveSource_52 : decode b_M_resolveSource 52 = .ok (.iconst 0, 1) := by decide +kernel
theorem d_M_resolveSource_53 : decode b_M_resolveSource 53 = .ok (.istore 4, 2) := by decide +kernel
theorem d_M_resolveSource_55 : decode b_M_resolveSource 55 = .ok (.aload_n 0, 1) := by decide +kernel
theorem d_M_resolveSource_56 : decode b_M_resolveSource 56 = .ok (.getfield 138, 3) := by decide +kernel
theorem d_M_resolveSource_59 : decode b_M_resolveSource 59 = .ok (.iload_n 2, 1) := by decide +kernel
theorem d_M_resolveSource_60 : decode b_M_resolveSource 60 = .ok (.iaload, 1) := by decide +kernel
theorem d_M_resolveSource_61 : decode b_M_resolveSource 61 = .ok (.iconst (-1), 1) := by decide +kernel
theorem d_M_resolveSource_62 : decode b_M_resolveSource 62 = .ok (.if_icmp .eq 8, 3) := by decide +kernel
theorem d_M_resolveSource_65 : decode b_M_resolveSource 65 = .ok (.iload 4, 2) := by decide +kernel
theorem d_M_resolveSource_67 : decode b_M_resolveSource 67 = .ok (.ifCond .eq 19, 3) := by decide +kernel
theorem d_M_resolveSource_70 : decode b_M_resolveSource 70 = .ok (.aload_n 0, 1) := by decide +kernel
theorem d_M_resolveSource_71 : decode b_M_resolveSource 71 = .ok (.iconst 2, 1) := by decide +kernel
theorem d_M_resolveSource_72 : decode b_M_resolveSource 72 = .ok (.aload_n 0, 1) := by decide +kernel
theorem d_M_resolveSource_73 : decode b_M_resolveSource 73 = .ok (.getfield 29, 3) := by decide +kernel
theorem d_M_resolveSource_76 : decode b_M_resolveSource 76 = .ok (.aload_n 0, 1) := by decide +kernel
theorem d_M_resolveSource_77 : decode b_M_resolveSource 77 = .ok (.getfield 132, 3) := by decide +kernel
theorem d_M_resolveSource_80 : decode b_M_resolveSource 80 = .ok (.iload_n 2, 1) := by decide +kernel
theorem d_M_resolveSource_81 : decode b_M_resolveSource 81 = .ok (.iaload, 1) := by decide +kernel
theorem d_M_resolveSource_82 : decode b_M_resolveSource 82 = .ok (.iaload, 1) := by decide +kernel
theorem d_M_resolveSource_83 : decode b_M_resolveSource 83 = .ok (.invokevirtual 313, 3) := by decide +kernel
theorem d_M_resolveSource_86 : decode b_M_resolveSource 86 = .ok (.return_, 1) := by decide +kernel
theorem d_M_resolveExpression_0 : decode b_M_resolveExpression 0 = .ok (.iconst 0, 1) := by decide +kernel
theorem d_M_resolveExpression_1 : decode b_M_resolveExpression 1 = .ok (.istore 4, 2) := by decide +kernel
theorem d_M_resolveExpression_3 : decode b_M_resolveExpression 3 = .ok (.iload 4, 2) := by decide +kernel
theorem d_M_resolveExpression_5 : decode b_M_resolveExpression 5 = .ok (.aload_n 0, 1) := by decide +kernel
theorem d_M_resolveExpression_6 : decode b_M_resolveExpression 6 = .ok (.getfield 114, 3) := by decide +kernel
theorem d_M_resolveExpression_9 : decode b_M_resolveExpression 9 = .ok (.iload_n 2, 1) := by decide +kernel
theorem d_M_resolveExpression_10 : decode b_M_resolveExpression 10 = .ok (.iaload, 1) := by decide +kernel
theorem d_M_resolveExpression_11 : decode b_M_resolveExpression 11 = .ok (.if_icmp .ge 145, 3) := by decide +kernel
theorem d_M_resolveExpression_14 : decode b_M_resolveExpression 14 = .ok (.aload_n 0, 1) := by decide +kernel
theorem d_M_resolveExpression_15 : decode b_M_resolveExpression 15 = .ok (.getfield 111, 3) := by decide +kernel
theorem d_M_resolveExpression_18 : decode b_M_resolveExpression 18 = .ok (.iload_n 2, 1) := by decide +kernel
theorem d_M_resolveExpression_19 : decode b_M_resolveExpression 19 = .ok (.iaload, 1) := by decide +kernel
theorem d_M_resolveExpression_20 : decode b_M_resolveExpression 20 = .ok (.iload 4, 2) := by decide +kernel
theorem d_M_resolveExpression_22 : decode b_M_resolveExpression 22 = .ok (.iadd, 1) := by decide +kernel
theorem d_M_resolveExpression_23 : decode b_M_resolveExpression 23 = .ok (.istore 5, 2) := by decide +kernel
theorem d_M_resolveExpression_25 : decode b_M_resolveExpression 25 = .ok (.aload_n 0, 1) := by decide +kernel
theorem d_M_resolveExpression_26 : decode b_M_resolveExpression 26 = .ok (.getfield 117, 3) := by decide +kernel
theorem d_M_resolveExpression_29 : decode b_M_resolveExpression 29 = .ok (.iload 5, 2) := by decide +kernel
theorem d_M_resolveExpression_31 : decode b_M_resolveExpression 31 = .ok (.iaload, 1) := by decide +kernel
theorem d_M_resolveExpression_32 : decode b_M_resolveExpression 32 = .ok (.iconst 2, 1) := by decide +kernel
theorem d_M_resolveExpression_33 : decode b_M_resolveExpression 33 = .ok (.if_icmp .ge 6, 3) := by decide +kernel
theorem d_M_resolveExpression_36 : decode b_M_resolveExpression 36 = .ok (.goto 114, 3) := by decide +kernel
theorem d_M_resolveExpression_39 : decode b_M_resolveExpression 39 = .ok (.aload_n 0, 1) := by decide +kernel
theorem d_M_resolveExpression_40 : decode b_M_resolveExpression 40 = .ok (.getfield 123, 3) := by decide +kernel
theorem d_M_resolveExpression_43 : decode b_M_resolveExpression 43 = .ok (.iload 5, 2) := by decide +kernel
theorem d_M_resolveExpression_45 : decode b_M_resolveExpression 45 = .ok (.iaload, 1) := by decide +kernel
theorem d_M_resolveExpression_46 : decode b_M_resolveExpression 46 = .ok (.istore 6, 2) := by decide +kernel
theorem d_M_resolveExpression_48 : decode b_M_resolveExpression 48 = .ok (.aload_n 0, 1) := by decide +kernel
theorem d_M_resolveExpression_49 : decode b_M_resolveExpression 49 = .ok (.iload_n 1, 1) := by decide +kernel
theorem d_M_resolveExpression_50 : decode b_M_resolveExpression 50 = .ok (.aload_n 0, 1) := by decide +kernel
theorem d_M_resolveExpression_51 : decode b_M_resolveExpression 51 = .ok (.getfield 32, 3) := by decide +kernel
theorem d_M_resolveExpression_54 : decode b_M_resolveExpression 54 = .ok (.iload 6, 2) := by decide +kernel
theorem d_M_resolveExpression_56 : decode b_M_resolveExpression 56 = .ok (.laload, 1) := by decide +kernel
theorem d_M_resolveExpression_57 : decode b_M_resolveExpression 57 = .ok (.iload_n 3, 1) := by decide +kernel
theorem d_M_resolveExpression_58 : decode b_M_resolveExpression 58 = .ok (.invokevirtual 400, 3) := by decide +kernel
theorem d_M_resolveExpression_61 : decode b_M_resolveExpression 61 = .ok (.istore 7, 2) := by decide +kernel
theorem d_M_resolveExpression_63 : decode b_M_resolveExpression 63 = .ok (.aload_n 0, 1) := by decide +kernel
theorem d_M_resolveExpression_64 : decode b_M_resolveExpression 64 = .ok (.getfield 126, 3) := by decide +kernel
theorem d_M_resolveExpression_67 : decode b_M_resolveExpression 67 = .ok (.iload 5, 2) := by decide +kernel
theorem d_M_resolveExpression_69 : decode b_M_resolveExpression 69 = .ok (.iload 7, 2) := by decide +kernel
theorem d_M_resolveExpression_71 : decode b_M_resolveExpression 71 = .ok (.iastore, 1) := by decide +kernel
theorem d_M_resolveExpression_72 : decode b_M_resolveExpression 72 = .ok (.aload_n 0, 1) := by decide +kernel
theorem d_M_resolveExpression_73 : decode b_M_resolveExpression 73 = .ok (.getfield 129, 3) := by decide +kernel
theorem d_M_resolveExpression_76 : decode b_M_resolveExpression 76 = .ok (.iload 5, 2) := by decide +kernel
theorem d_M_resolveExpression_78 : decode b_M_resolveExpression 78 = .ok (.iload 7, 2) := by decide +kernel
theorem d_M_resolveExpression_80 : decode b_M_resolveExpression 80 = .ok (.iconst (-1), 1) := by decide +kernel
theorem d_M_resolveExpression_81 : decode b_M_resolveExpression 81 = .ok (.if_icmp .ne 7, 3) := by decide +kernel
theorem d_M_resolveExpression_84 : decode b_M_resolveExpression 84 = .ok (.iconst (-1), 1) := by decide +kernel
theorem d_M_resolveExpression_85 : decode b_M_resolveExpression 85 = .ok (.goto 41, 3) := by decide +kernel
theorem d_M_resolveExpression_88 : decode b_M_resolveExpression 88 = .ok (.aload_n 0, 1) := by decide +kernel
theorem d_M_resolveExpression_89 : decode b_M_resolveExpression 89 = .ok (.aload_n 0, 1) := by decide +kernel
theorem d_M_resolveExpression_90 : decode b_M_resolveExpression 90 = .ok (.getfield 138, 3) := by decide +kernel
theorem d_M_resolveExpression_93 : decode b_M_resolveExpression 93 = .ok (.iload 7, 2) := by decide +kernel
theorem d_M_resolveExpression_95 : decode b_M_resolveExpression 95 = .ok (.iconst 3, 1) := by decide +kernel
theorem d_M_resolveExpression_96 : decode b_M_resolveExpression 96 = .ok (.if_icmp .ne 7, 3) := by decide +kernel
theorem d_M_resolveExpression_99 : decode b_M_resolveExpression 99 = .ok (.iload_n 3, 1) := by decide +kernel
theorem d_M_resolveExpression_100 : decode b_M_resolveExpression 100 = .ok (.goto 12, 3) := by decide +kernel
theorem d_M_resolveExpression_103 : decode b_M_resolveExpression 103 = .ok (.aload_n 0, 1) := by decide +kernel
theorem d_M_resolveExpression_104 : decode b_M_resolveExpression 104 = .ok (.getfield 90, 3) := by decide +kernel
theorem d_M_resolveExpression_107 : decode b_M_resolveExpression 107 = .ok (.iload_n 1, 1) := by decide +kernel
theorem d_M_resolveExpression_108 : decode b_M_resolveExpression 108 = .ok (.iaload, 1) := by decide +kernel
theorem d_M_resolveExpression_109 : decode b_M_resolveExpression 109 = .ok (.iload 7, 2) := by decide +kernel
theorem d_M_resolveExpression_111 : decode b_M_resolveExpression 111 = .ok (.iadd, 1) := by decide +kernel
theorem d_M_resolveExpression_112 : decode b_M_resolveExpression 112 = .ok (.iaload, 1) := by decide +kernel
theorem d_M_resolveExpression_113 : decode b_M_resolveExpression 113 = .ok (.aload_n 0, 1) := by decide +kernel
theorem d_M_resolveExpression_114 : decode b_M_resolveExpression 114 = .ok (.getfield 32, 3) := by decide +kernel
theorem d_M_resolveExpression_117 : decode b_M_resolveExpression 117 = .ok (.iload 6, 2) := by decide +kernel
theorem d_M_resolveExpression_119 : decode b_M_resolveExpression 119 = .ok (.iconst 2, 1) := by decide +kernel
theorem d_M_resolveExpression_120 : decode b_M_resolveExpression 120 = .ok (.iadd, 1) := by decide +kernel
theorem d_M_resolveExpression_121 : decode b_M_resolveExpression 121 = .ok (.laload, 1) := by decide +kernel
theorem d_M_resolveExpression_122 : decode b_M_resolveExpression 122 = .ok (.iconst 0, 1) := by decide +kernel
theorem d_M_resolveExpression_123 : decode b_M_resolveExpression 123 = .ok (.invokevirtual 404, 3) := by decide +kernel
theorem d_M_resolveExpression_126 : decode b_M_resolveExpression 126 = .ok (.iastore, 1) := by decide +kernel
theorem d_M_resolveExpression_127 : decode b_M_resolveExpression 127 = .ok (.aload_n 0, 1) := by decide +kernel
theorem d_M_resolveExpression_128 : decode b_M_resolveExpression 128 = .ok (.getfield 129, 3) := by decide +kernel
theorem d_M_resolveExpression_131 : decode b_M_resolveExpression 131 = .ok (.iload 5, 2) := by decide +kernel
theorem d_M_resolveExpression_133 : decode b_M_resolveExpression 133 = .ok (.iaload, 1) := by decide +kernel
theorem d_M_resolveExpression_134 : decode b_M_resolveExpression 134 = .ok (.iconst (-1), 1) := by decide +kernel
theorem d_M_resolveExpression_135 : decode b_M_resolveExpression 135 = .ok (.if_icmp .ne 15, 3) := by decide +kernel
theorem d_M_resolveExpression_138 : decode b_M_resolveExpression 138 = .ok (.aload_n 0, 1) := by decide +kernel
theorem d_M_resolveExpression_139 : decode b_M_resolveExpression 139 = .ok (.iconst 2, 1) := by decide +kernel
theorem d_M_resolveExpression_140 : decode b_M_resolveExpression 140 = .ok (.aload_n 0, 1) := by decide +kernel
theorem d_M_resolveExpression_141 : decode b_M_resolveExpression 141 = .ok (.getfield 29, 3) := by decide +kernel
theorem d_M_resolveExpression_144 : decode b_M_resolveExpression 144 = .ok (.iload 6, 2) := by decide +kernel
theorem d_M_resolveExpression_146 : decode b_M_resolveExpression 146 = .ok (.iaload, 1) := by decide +kernel
theorem d_M_resolveExpression_147 : decode b_M_resolveExpression 147 = .ok (.invokevirtual 313, 3) := by decide +kernel
theorem d_M_resolveExpression_150 : decode b_M_resolveExpression 150 = .ok (.iinc 4 1, 3) := by decide +kernel
theorem d_M_resolveExpression_153 : decode b_M_resolveExpression 153 = .ok (.goto (-150), 3) := by decide +kernel
theorem d_M_resolveExpression_156 : decode b_M_resolveExpression 156 = .ok (.return_, 1) := by decide +kernel
theorem d_M_resolveCondition_0 : decode b_M_resolveCondition 0 = .ok (.aload_n 0, 1) := by decide +kernel
theorem d_M_resolveCondition_1 : decode b_M_resolveCondition 1 = .ok (.iload_n 1, 1) := by decide +kernel
theorem d_M_resolveCondition_2 : decode b_M_resolveCondition 2 = .ok (.aload_n 0, 1) := by decide +kernel
theorem d_M_resolveCondition_3 : decode b_M_resolveCondition 3 = .ok (.getfield 147, 3) := by decide +kernel
theorem d_M_resolveCondition_6 : decode b_M_resolveCondition 6 = .ok (.iload_n 2, 1) := by decide +kernel
theorem d_M_resolveCondition_7 : decode b_M_resolveCondition 7 = .ok (.iaload, 1) := by decide +kernel
theorem d_M_resolveCondition_8 : decode b_M_resolveCondition 8 = .ok (.iload_n 3, 1) := by decide +kernel
theorem d_M_resolveCondition_9 : decode b_M_resolveCondition 9 = .ok (.invokevirtual 408, 3) := by decide +kernel
theorem d_M_resolveCondition_12 : decode b_M_resolveCondition 12 = .ok (.aload_n 0, 1) := by decide +kernel
theorem d_M_resolveCondition_13 : decode b_M_resolveCondition 13 = .ok (.getfield 141, 3) := by decide +kernel
theorem d_M_resolveCondition_16 : decode b_M_resolveCondition 16 = .ok (.iload_n 2, 1) := by decide +kernel
theorem d_M_resolveCondition_17 : decode b_M_resolveCondition 17 = .ok (.iaload, 1) := by decide +kernel
theorem d_M_resolveCondition_18 : decode b_M_resolveCondition 18 = .ok (.ifCond .ne 15, 3) := by decide +kernel
theorem d_M_resolveCondition_21 : decode b_M_resolveCondition 21 = .ok (.aload_n 0, 1) := by decide +kernel
theorem d_M_resolveCondition_22 : decode b_M_resolveCondition 22 = .ok (.iload_n 1, 1) := by decide +kernel
theorem d_M_resolveCondition_23 : decode b_M_resolveCondition 23 = .ok (.aload_n 0, 1) := by decide +kernel
theorem d_M_resolveCondition_24 : decode b_M_resolveCondition 24 = .ok (.getfield 150, 3) := by decide +kernel
theorem d_M_resolveCondition_27 : decode b_M_resolveCondition 27 = .ok (.iload_n 2, 1) := by decide +kernel
theorem d_M_resolveCondition_28 : decode b_M_resolveCondition 28 = .ok (.iaload, 1) := by decide +kernel
theorem d_M_resolveCondition_29 : decode b_M_resolveCondition 29 = .ok (.iload_n 3, 1) := by decide +kernel
theorem d_M_resolveCondition_30 : decode b_M_resolveCondition 30 = .ok (.invokevirtual 408, 3) := by decide +kernel
theorem d_M_resolveCondition_33 : decode b_M_resolveCondition 33 = .ok (.return_, 1) := by decide +kernel
theorem d_M_resolveNotExists_0 : decode b_M_resolveNotExists 0 = .ok (.aload_n 0, 1) := by decide +kernel
theorem d_M_resolveNotExists_1 : decode b_M_resolveNotExists 1 = .ok (.getfield 153, 3) := by decide +kernel
theorem d_M_resolveNotExists_4 : decode b_M_resolveNotExists 4 = .ok (.iload_n 2, 1) := by decide +kernel
theorem d_M_resolveNotExists_5 : decode b_M_resolveNotExists 5 = .ok (.iaload, 1) := by decide +kernel
theorem d_M_resolveNotExists_6 : decode b_M_resolveNotExists 6 = .ok (.istore_n 3, 1) := by decide +kernel
theorem d_M_resolveNotExists_7 : decode b_M_resolveNotExists 7 = .ok (.aload_n 0, 1) := by decide +kernel
theorem d_M_resolveNotExists_8 : decode b_M_resolveNotExists 8 = .ok (.iload_n 1, 1) := by decide +kernel
theorem d_M_resolveNotExists_9 : decode b_M_resolveNotExists 9 = .ok (.iload_n 3, 1) := by decide +kernel
theorem d_M_resolveNotExists_10 : decode b_M_resolveNotExists 10 = .ok (.invokevirtual 412, 3) := by decide +kernel
theorem d_M_resolveNotExists_13 : decode b_M_resolveNotExists 13 = .ok (.aload_n 0, 1) := by decide +kernel
theorem d_M_resolveNotExists_14 : decode b_M_resolveNotExists 14 = .ok (.iload_n 1, 1) := by decide +kernel
theorem d_M_resolveNotExists_15 : decode b_M_resolveNotExists 15 = .ok (.aload_n 0, 1) := by decide +kernel
theorem d_M_resolveNotExists_16 : decode b_M_resolveNotExists 16 = .ok (.getfield 32, 3) := by decide +kernel
theorem d_M_resolveNotExists_19 : decode b_M_resolveNotExists 19 = .ok (.aload_n 0, 1) := by decide +kernel
theorem d_M_resolveNotExists_20 : decode b_M_resolveNotExists 20 = .ok (.getfield 135, 3) := by decide +kernel
theorem d_M_resolveNotExists_23 : decode b_M_resolveNotExists 23 = .ok (.iload_n 3, 1) := by decide +kernel
theorem d_M_resolveNotExists_24 : decode b_M_resolveNotExists 24 = .ok (.iaload, 1) := by decide +kernel
theorem d_M_resolveNotExists_25 : decode b_M_resolveNotExists 25 = .ok (.laload, 1) := by decide +kernel
theorem d_M_resolveNotExists_26 : decode b_M_resolveNotExists 26 = .ok (.iconst (-1), 1) := by decide +kernel
theorem d_M_resolveNotExists_27 : decode b_M_resolveNotExists 27 = .ok (.invokevirtual 400, 3) := by decide +kernel
theorem d_M_resolveNotExists_30 : decode b_M_resolveNotExists 30 = .ok (.iconst (-1), 1) := by decide +kernel
theorem d_M_resolveNotExists_31 : decode b_M_resolveNotExists 31 = .ok (.if_icmp .eq 19, 3) := by decide +kernel
theorem d_M_resolveNotExists_34 : decode b_M_resolveNotExists 34 = .ok (.aload_n 0, 1) := by decide +kernel
theorem d_M_resolveNotExists_35 : decode b_M_resolveNotExists 35 = .ok (.iconst 2, 1) := by decide +kernel
theorem d_M_resolveNotExists_36 : decode b_M_resolveNotExists 36 = .ok (.aload_n 0, 1) := by decide +kernel
theorem d_M_resolveNotExists_37 : decode b_M_resolveNotExists 37 = .ok (.getfield 29, 3) := by decide +kernel
theorem d_M_resolveNotExists_40 : decode b_M_resolveNotExists 40 = .ok (.aload_n 0, 1) := by decide +kernel
theorem d_M_resolveNotExists_41 : decode b_M_resolveNotExists 41 = .ok (.getfield 135, 3) := by decide +kernel
theorem d_M_resolveNotExists_44 : decode b_M_resolveNotExists 44 = .ok (.iload_n 3, 1) := by decide +kernel
theorem d_M_resolveNotExists_45 : decode b_M_resolveNotExists 45 = .ok (.iaload, 1) := by decide +kernel
theorem d_M_resolveNotExists_46 : decode b_M_resolveNotExists 46 = .ok (.iaload, 1) := by decide +kernel
