theorem dX11_late_80 : decode cX11_late 80 = .ok (.iload 4, 2) := by decide +kernel
theorem dX11_late_82 : decode cX11_late 82 = .ok (.aload_n 0, 1) := by decide +kernel
theorem dX11_late_83 : decode cX11_late 83 = .ok (.getfield 35, 3) := by decide +kernel
theorem dX11_late_86 : decode cX11_late 86 = .ok (.iload 4, 2) := by decide +kernel
theorem dX11_late_88 : decode cX11_late 88 = .ok (.iaload, 1) := by decide +kernel
theorem dX11_late_89 : decode cX11_late 89 = .ok (.iastore, 1) := by decide +kernel
theorem dX11_late_90 : decode cX11_late 90 = .ok (.iconst 1, 1) := by decide +kernel
theorem dX11_late_91 : decode cX11_late 91 = .ok (.istore 5, 2) := by decide +kernel
theorem dX11_late_93 : decode cX11_late 93 = .ok (.iload 5, 2) := by decide +kernel
theorem dX11_late_95 : decode cX11_late 95 = .ok (.iload 4, 2) := by decide +kernel
theorem dX11_late_97 : decode cX11_late 97 = .ok (.if_icmp .gt 115, 3) := by decide +kernel
theorem dX11_late_100 : decode cX11_late 100 = .ok (.aload_n 0, 1) := by decide +kernel
theorem dX11_late_101 : decode cX11_late 101 = .ok (.iload_n 2, 1) := by decide +kernel
theorem dX11_late_102 : decode cX11_late 102 = .ok (.invokevirtual 144, 3) := by decide +kernel
theorem dX11_late_105 : decode cX11_late 105 = .ok (.ifCond .ne 107, 3) := by decide +kernel
theorem dX11_late_108 : decode cX11_late 108 = .ok (.aload_n 0, 1) := by decide +kernel
theorem dX11_late_109 : decode cX11_late 109 = .ok (.iload_n 2, 1) := by decide +kernel
theorem dX11_late_110 : decode cX11_late 110 = .ok (.iload 5, 2) := by decide +kernel
theorem dX11_late_112 : decode cX11_late 112 = .ok (.invokevirtual 133, 3) := by decide +kernel
theorem dX11_late_115 : decode cX11_late 115 = .ok (.ifCond .eq 22, 3) := by decide +kernel
theorem dX11_late_118 : decode cX11_late 118 = .ok (.aload_n 0, 1) := by decide +kernel
theorem dX11_late_119 : decode cX11_late 119 = .ok (.getfield 35, 3) := by decide +kernel
theorem dX11_late_122 : decode cX11_late 122 = .ok (.iload 4, 2) := by decide +kernel
theorem dX11_late_124 : decode cX11_late 124 = .ok (.iload 5, 2) := by decide +kernel
theorem dX11_late_126 : decode cX11_late 126 = .ok (.isub, 1) := by decide +kernel
theorem dX11_late_127 : decode cX11_late 127 = .ok (.iaload, 1) := by decide +kernel
theorem dX11_late_128 : decode cX11_late 128 = .ok (.bipush (-9), 2) := by decide +kernel
theorem dX11_late_130 : decode cX11_late 130 = .ok (.if_icmp .eq 7, 3) := by decide +kernel
theorem dX11_late_133 : decode cX11_late 133 = .ok (.iconst 1, 1) := by decide +kernel
theorem dX11_late_134 : decode cX11_late 134 = .ok (.goto 4, 3) := by decide +kernel
theorem dX11_late_137 : decode cX11_late 137 = .ok (.iconst 0, 1) := by decide +kernel
theorem dX11_late_138 : decode cX11_late 138 = .ok (.istore 6, 2) := by decide +kernel
theorem dX11_late_140 : decode cX11_late 140 = .ok (.iload 6, 2) := by decide +kernel
theorem dX11_late_142 : decode cX11_late 142 = .ok (.ifCond .eq 29, 3) := by decide +kernel
theorem dX11_late_145 : decode cX11_late 145 = .ok (.aload_n 0, 1) := by decide +kernel
theorem dX11_late_146 : decode cX11_late 146 = .ok (.getfield 35, 3) := by decide +kernel
theorem dX11_late_149 : decode cX11_late 149 = .ok (.iload 4, 2) := by decide +kernel
theorem dX11_late_151 : decode cX11_late 151 = .ok (.iload 5, 2) := by decide +kernel
theorem dX11_late_153 : decode cX11_late 153 = .ok (.isub, 1) := by decide +kernel
theorem dX11_late_154 : decode cX11_late 154 = .ok (.iaload, 1) := by decide +kernel
theorem dX11_late_155 : decode cX11_late 155 = .ok (.iload 5, 2) := by decide +kernel
theorem dX11_late_157 : decode cX11_late 157 = .ok (.iload_n 3, 1) := by decide +kernel
theorem dX11_late_158 : decode cX11_late 158 = .ok (.if_icmp .ge 8, 3) := by decide +kernel
theorem dX11_late_161 : decode cX11_late 161 = .ok (.iload 5, 2) := by decide +kernel
theorem dX11_late_163 : decode cX11_late 163 = .ok (.goto 4, 3) := by decide +kernel
theorem dX11_late_166 : decode cX11_late 166 = .ok (.iload_n 3, 1) := by decide +kernel
theorem dX11_late_167 : decode cX11_late 167 = .ok (.iadd, 1) := by decide +kernel
theorem dX11_late_168 : decode cX11_late 168 = .ok (.goto 5, 3) := by decide +kernel
theorem dX11_late_171 : decode cX11_late 171 = .ok (.bipush (-9), 2) := by decide +kernel
theorem dX11_late_173 : decode cX11_late 173 = .ok (.istore 7, 2) := by decide +kernel
theorem dX11_late_175 : decode cX11_late 175 = .ok (.aload_n 0, 1) := by decide +kernel
theorem dX11_late_176 : decode cX11_late 176 = .ok (.getfield 38, 3) := by decide +kernel
theorem dX11_late_179 : decode cX11_late 179 = .ok (.iload 4, 2) := by decide +kernel
theorem dX11_late_181 : decode cX11_late 181 = .ok (.iload 7, 2) := by decide +kernel
theorem dX11_late_183 : decode cX11_late 183 = .ok (.aload_n 0, 1) := by decide +kernel
theorem dX11_late_184 : decode cX11_late 184 = .ok (.getfield 38, 3) := by decide +kernel
theorem dX11_late_187 : decode cX11_late 187 = .ok (.iload 4, 2) := by decide +kernel
theorem dX11_late_189 : decode cX11_late 189 = .ok (.iaload, 1) := by decide +kernel
theorem dX11_late_190 : decode cX11_late 190 = .ok (.if_icmp .le 8, 3) := by decide +kernel
theorem dX11_late_193 : decode cX11_late 193 = .ok (.iload 7, 2) := by decide +kernel
theorem dX11_late_195 : decode cX11_late 195 = .ok (.goto 10, 3) := by decide +kernel
theorem dX11_late_198 : decode cX11_late 198 = .ok (.aload_n 0, 1) := by decide +kernel
theorem dX11_late_199 : decode cX11_late 199 = .ok (.getfield 38, 3) := by decide +kernel
theorem dX11_late_202 : decode cX11_late 202 = .ok (.iload 4, 2) := by decide +kernel
theorem dX11_late_204 : decode cX11_late 204 = .ok (.iaload, 1) := by decide +kernel
theorem dX11_late_205 : decode cX11_late 205 = .ok (.iastore, 1) := by decide +kernel
theorem dX11_late_206 : decode cX11_late 206 = .ok (.iinc 5 1, 3) := by decide +kernel
theorem dX11_late_209 : decode cX11_late 209 = .ok (.goto (-116), 3) := by decide +kernel
theorem dX11_late_212 : decode cX11_late 212 = .ok (.iinc 4 1, 3) := by decide +kernel
theorem dX11_late_215 : decode cX11_late 215 = .ok (.goto (-145), 3) := by decide +kernel
theorem dX11_late_218 : decode cX11_late 218 = .ok (.iconst 0, 1) := by decide +kernel
theorem dX11_late_219 : decode cX11_late 219 = .ok (.istore 4, 2) := by decide +kernel
theorem dX11_late_221 : decode cX11_late 221 = .ok (.iload 4, 2) := by decide +kernel
theorem dX11_late_223 : decode cX11_late 223 = .ok (.iload_n 1, 1) := by decide +kernel
theorem dX11_late_224 : decode cX11_late 224 = .ok (.if_icmp .gt 23, 3) := by decide +kernel
theorem dX11_late_227 : decode cX11_late 227 = .ok (.aload_n 0, 1) := by decide +kernel
theorem dX11_late_228 : decode cX11_late 228 = .ok (.getfield 35, 3) := by decide +kernel
theorem dX11_late_231 : decode cX11_late 231 = .ok (.iload 4, 2) := by decide +kernel
theorem dX11_late_233 : decode cX11_late 233 = .ok (.aload_n 0, 1) := by decide +kernel
theorem dX11_late_234 : decode cX11_late 234 = .ok (.getfield 38, 3) := by decide +kernel
theorem dX11_late_237 : decode cX11_late 237 = .ok (.iload 4, 2) := by decide +kernel
theorem dX11_late_239 : decode cX11_late 239 = .ok (.iaload, 1) := by decide +kernel
theorem dX11_late_240 : decode cX11_late 240 = .ok (.iastore, 1) := by decide +kernel
theorem dX11_late_241 : decode cX11_late 241 = .ok (.iinc 4 1, 3) := by decide +kernel
theorem dX11_late_244 : decode cX11_late 244 = .ok (.goto (-23), 3) := by decide +kernel
theorem dX11_late_247 : decode cX11_late 247 = .ok (.iinc 2 1, 3) := by decide +kernel
theorem dX11_late_250 : decode cX11_late 250 = .ok (.goto (-195), 3) := by decide +kernel
theorem dX11_late_253 : decode cX11_late 253 = .ok (.aload_n 0, 1) := by decide +kernel
theorem dX11_late_254 : decode cX11_late 254 = .ok (.getfield 35, 3) := by decide +kernel
theorem dX11_late_257 : decode cX11_late 257 = .ok (.iload_n 1, 1) := by decide +kernel
theorem dX11_late_258 : decode cX11_late 258 = .ok (.iaload, 1) := by decide +kernel
theorem dX11_late_259 : decode cX11_late 259 = .ok (.bipush (-9), 2) := by decide +kernel
theorem dX11_late_261 : decode cX11_late 261 = .ok (.if_icmp .ne 8, 3) := by decide +kernel
theorem dX11_late_264 : decode cX11_late 264 = .ok (.bipush (-9), 2) := by decide +kernel
theorem dX11_late_266 : decode cX11_late 266 = .ok (.goto 14, 3) := by decide +kernel
theorem dX11_late_269 : decode cX11_late 269 = .ok (.aload_n 0, 1) := by decide +kernel
theorem dX11_late_270 : decode cX11_late 270 = .ok (.getfield 109, 3) := by decide +kernel
theorem dX11_late_273 : decode cX11_late 273 = .ok (.aload_n 0, 1) := by decide +kernel
theorem dX11_late_274 : decode cX11_late 274 = .ok (.getfield 35, 3) := by decide +kernel
theorem dX11_late_277 : decode cX11_late 277 = .ok (.iload_n 1, 1) := by decide +kernel
theorem dX11_late_278 : decode cX11_late 278 = .ok (.iaload, 1) := by decide +kernel
theorem dX11_late_279 : decode cX11_late 279 = .ok (.isub, 1) := by decide +kernel
theorem dX11_late_280 : decode cX11_late 280 = .ok (.ireturn, 1) := by decide +kernel
theorem dX11_tenths_0 : decode cX11_tenths 0 = .ok (.iload_n 1, 1) := by decide +kernel
theorem dX11_tenths_1 : decode cX11_tenths 1 = .ok (.i2l, 1) := by decide +kernel
theorem dX11_tenths_2 : decode cX11_tenths 2 = .ok (.lconst 0, 1) := by decide +kernel
theorem dX11_tenths_3 : decode cX11_tenths 3 = .ok (.ldc2_w 78, 3) := by decide +kernel
theorem dX11_tenths_6 : decode cX11_tenths 6 = .ok (.invokestatic 62, 3) := by decide +kernel
theorem dX11_tenths_9 : decode cX11_tenths 9 = .ok (.ifCond .eq 15, 3) := by decide +kernel
theorem dX11_tenths_12 : decode cX11_tenths 12 = .ok (.iload_n 2, 1) := by decide +kernel
theorem dX11_tenths_13 : decode cX11_tenths 13 = .ok (.i2l, 1) := by decide +kernel
theorem dX11_tenths_14 : decode cX11_tenths 14 = .ok (.lconst 0, 1) := by decide +kernel
theorem dX11_tenths_15 : decode cX11_tenths 15 = .ok (.ldc2_w 182, 3) := by decide +kernel
theorem dX11_tenths_18 : decode cX11_tenths 18 = .ok (.invokestatic 62, 3) := by decide +kernel
theorem dX11_tenths_21 : decode cX11_tenths 21 = .ok (.ifCond .ne 6, 3) := by decide +kernel
theorem dX11_tenths_24 : decode cX11_tenths 24 = .ok (.bipush (-2), 2) := by decide +kernel
theorem dX11_tenths_26 : decode cX11_tenths 26 = .ok (.ireturn, 1) := by decide +kernel
theorem dX11_tenths_27 : decode cX11_tenths 27 = .ok (.aload_n 0, 1) := by decide +kernel
theorem dX11_tenths_28 : decode cX11_tenths 28 = .ok (.getfield 44, 3) := by decide +kernel
theorem dX11_tenths_31 : decode cX11_tenths 31 = .ok (.iload_n 1, 1) := by decide +kernel
theorem dX11_tenths_32 : decode cX11_tenths 32 = .ok (.iaload, 1) := by decide +kernel
theorem dX11_tenths_33 : decode cX11_tenths 33 = .ok (.istore_n 3, 1) := by decide +kernel
theorem dX11_tenths_34 : decode cX11_tenths 34 = .ok (.aload_n 0, 1) := by decide +kernel
theorem dX11_tenths_35 : decode cX11_tenths 35 = .ok (.getfield 44, 3) := by decide +kernel
theorem dX11_tenths_38 : decode cX11_tenths 38 = .ok (.iload_n 1, 1) := by decide +kernel
theorem dX11_tenths_39 : decode cX11_tenths 39 = .ok (.iload_n 2, 1) := by decide +kernel
theorem dX11_tenths_40 : decode cX11_tenths 40 = .ok (.iastore, 1) := by decide +kernel
theorem dX11_tenths_41 : decode cX11_tenths 41 = .ok (.iload_n 3, 1) := by decide +kernel
theorem dX11_tenths_42 : decode cX11_tenths 42 = .ok (.ireturn, 1) := by decide +kernel
theorem dX11_areTen_0 : decode cX11_areTen 0 = .ok (.iconst 0, 1) := by decide +kernel
theorem dX11_areTen_1 : decode cX11_areTen 1 = .ok (.istore_n 1, 1) := by decide +kernel
theorem dX11_areTen_2 : decode cX11_areTen 2 = .ok (.iconst 0, 1) := by decide +kernel
theorem dX11_areTen_3 : decode cX11_areTen 3 = .ok (.istore_n 2, 1) := by decide +kernel
theorem dX11_areTen_4 : decode cX11_areTen 4 = .ok (.iload_n 2, 1) := by decide +kernel
theorem dX11_areTen_5 : decode cX11_areTen 5 = .ok (.bipush 10, 2) := by decide +kernel
theorem dX11_areTen_7 : decode cX11_areTen 7 = .ok (.if_icmp .ge 18, 3) := by decide +kernel
theorem dX11_areTen_10 : decode cX11_areTen 10 = .ok (.iload_n 1, 1) := by decide +kernel
theorem dX11_areTen_11 : decode cX11_areTen 11 = .ok (.aload_n 0, 1) := by decide +kernel
theorem dX11_areTen_12 : decode cX11_areTen 12 = .ok (.getfield 44, 3) := by decide +kernel
theorem dX11_areTen_15 : decode cX11_areTen 15 = .ok (.iload_n 2, 1) := by decide +kernel
theorem dX11_areTen_16 : decode cX11_areTen 16 = .ok (.iaload, 1) := by decide +kernel
theorem dX11_areTen_17 : decode cX11_areTen 17 = .ok (.iadd, 1) := by decide +kernel
theorem dX11_areTen_18 : decode cX11_areTen 18 = .ok (.istore_n 1, 1) := by decide +kernel
theorem dX11_areTen_19 : decode cX11_areTen 19 = .ok (.iinc 2 1, 3) := by decide +kernel
theorem dX11_areTen_22 : decode cX11_areTen 22 = .ok (.goto (-18), 3) := by decide +kernel
theorem dX11_areTen_25 : decode cX11_areTen 25 = .ok (.iload_n 1, 1) := by decide +kernel
theorem dX11_areTen_26 : decode cX11_areTen 26 = .ok (.bipush 10, 2) := by decide +kernel
theorem dX11_areTen_28 : decode cX11_areTen 28 = .ok (.if_icmp .ne 7, 3) := by decide +kernel
theorem dX11_areTen_31 : decode cX11_areTen 31 = .ok (.iconst 1, 1) := by decide +kernel
theorem dX11_areTen_32 : decode cX11_areTen 32 = .ok (.goto 4, 3) := by decide +kernel
theorem dX11_areTen_35 : decode cX11_areTen 35 = .ok (.iconst 0, 1) := by decide +kernel
theorem dX11_areTen_36 : decode cX11_areTen 36 = .ok (.ireturn, 1) := by decide +kernel
theorem dX11_part_0 : decode cX11_part 0 = .ok (.lload_n 0, 1) := by decide +kernel
theorem dX11_part_1 : decode cX11_part 1 = .ok (.lstore 5, 2) := by decide +kernel
theorem dX11_part_3 : decode cX11_part 3 = .ok (.lload_n 2, 1) := by decide +kernel
theorem dX11_part_4 : decode cX11_part 4 = .ok (.lstore 7, 2) := by decide +kernel
theorem dX11_part_6 : decode cX11_part 6 = .ok (.lload 7, 2) := by decide +kernel
theorem dX11_part_8 : decode cX11_part 8 = .ok (.lconst 0, 1) := by decide +kernel
theorem dX11_part_9 : decode cX11_part 9 = .ok (.lcmp, 1) := by decide +kernel
theorem dX11_part_10 : decode cX11_part 10 = .ok (.ifCond .eq 21, 3) := by decide +kernel
theorem dX11_part_13 : decode cX11_part 13 = .ok (.lload 5, 2) := by decide +kernel
theorem dX11_part_15 : decode cX11_part 15 = .ok (.lload 7, 2) := by decide +kernel
theorem dX11_part_17 : decode cX11_part 17 = .ok (.lrem, 1) := by decide +kernel
theorem dX11_part_18 : decode cX11_part 18 = .ok (.lstore 9, 2) := by decide +kernel
theorem dX11_part_20 : decode cX11_part 20 = .ok (.lload 7, 2) := by decide +kernel
theorem dX11_part_22 : decode cX11_part 22 = .ok (.lstore 5, 2) := by decide +kernel
theorem dX11_part_24 : decode cX11_part 24 = .ok (.lload 9, 2) := by decide +kernel
theorem dX11_part_26 : decode cX11_part 26 = .ok (.lstore 7, 2) := by decide +kernel
theorem dX11_part_28 : decode cX11_part 28 = .ok (.goto (-22), 3) := by decide +kernel
theorem dX11_part_31 : decode cX11_part 31 = .ok (.iload 4, 2) := by decide +kernel
theorem dX11_part_33 : decode cX11_part 33 = .ok (.ifCond .eq 10, 3) := by decide +kernel
theorem dX11_part_36 : decode cX11_part 36 = .ok (.lload_n 0, 1) := by decide +kernel
theorem dX11_part_37 : decode cX11_part 37 = .ok (.lload 5, 2) := by decide +kernel
theorem dX11_part_39 : decode cX11_part 39 = .ok (.ldiv, 1) := by decide +kernel
theorem dX11_part_40 : decode cX11_part 40 = .ok (.goto 7, 3) := by decide +kernel
theorem dX11_part_43 : decode cX11_part 43 = .ok (.lload_n 2, 1) := by decide +kernel
theorem dX11_part_44 : decode cX11_part 44 = .ok (.lload 5, 2) := by decide +kernel
theorem dX11_part_46 : decode cX11_part 46 = .ok (.ldiv, 1) := by decide +kernel
theorem dX11_part_47 : decode cX11_part 47 = .ok (.lreturn, 1) := by decide +kernel
theorem dX11_allRight_0 : decode cX11_allRight 0 = .ok (.iload_n 1, 1) := by decide +kernel
theorem dX11_allRight_1 : decode cX11_allRight 1 = .ok (.i2l, 1) := by decide +kernel
theorem dX11_allRight_2 : decode cX11_allRight 2 = .ok (.lconst 0, 1) := by decide +kernel
theorem dX11_allRight_3 : decode cX11_allRight 3 = .ok (.ldc2_w 78, 3) := by decide +kernel
theorem dX11_allRight_6 : decode cX11_allRight 6 = .ok (.invokestatic 62, 3) := by decide +kernel
theorem dX11_allRight_9 : decode cX11_allRight 9 = .ok (.ifCond .ne 7, 3) := by decide +kernel
theorem dX11_allRight_12 : decode cX11_allRight 12 = .ok (.ldc2_w 184, 3) := by decide +kernel
theorem dX11_allRight_15 : decode cX11_allRight 15 = .ok (.lreturn, 1) := by decide +kernel
theorem dX11_allRight_16 : decode cX11_allRight 16 = .ok (.aload_n 0, 1) := by decide +kernel
theorem dX11_allRight_17 : decode cX11_allRight 17 = .ok (.invokevirtual 186, 3) := by decide +kernel
theorem dX11_allRight_20 : decode cX11_allRight 20 = .ok (.ifCond .eq 22, 3) := by decide +kernel
theorem dX11_allRight_23 : decode cX11_allRight 23 = .ok (.aload_n 0, 1) := by decide +kernel
theorem dX11_allRight_24 : decode cX11_allRight 24 = .ok (.iload_n 1, 1) := by decide +kernel
theorem dX11_allRight_25 : decode cX11_allRight 25 = .ok (.iconst 1, 1) := by decide +kernel
theorem dX11_allRight_26 : decode cX11_allRight 26 = .ok (.invokevirtual 175, 3) := by decide +kernel
theorem dX11_allRight_29 : decode cX11_allRight 29 = .ok (.bipush 10, 2) := by decide +kernel
theorem dX11_allRight_31 : decode cX11_allRight 31 = .ok (.iload_n 1, 1) := by decide +kernel
theorem dX11_allRight_32 : decode cX11_allRight 32 = .ok (.invokestatic 172, 3) := by decide +kernel
theorem dX11_allRight_35 : decode cX11_allRight 35 = .ok (.iload_n 2, 1) := by decide +kernel
theorem dX11_allRight_36 : decode cX11_allRight 36 = .ok (.invokestatic 190, 3) := by decide +kernel
theorem dX11_allRight_39 : decode cX11_allRight 39 = .ok (.goto 6, 3) := by decide +kernel
theorem dX11_allRight_42 : decode cX11_allRight 42 = .ok (.ldc2_w 194, 3) := by decide +kernel
theorem dX11_allRight_45 : decode cX11_allRight 45 = .ok (.lreturn, 1) := by decide +kernel
theorem dX11_mean_0 : decode cX11_mean 0 = .ok (.iload_n 1, 1) := by decide +kernel
theorem dX11_mean_1 : decode cX11_mean 1 = .ok (.i2l, 1) := by decide +kernel
theorem dX11_mean_2 : decode cX11_mean 2 = .ok (.lconst 0, 1) := by decide +kernel
theorem dX11_mean_3 : decode cX11_mean 3 = .ok (.ldc2_w 78, 3) := by decide +kernel
theorem dX11_mean_6 : decode cX11_mean 6 = .ok (.invokestatic 62, 3) := by decide +kernel
theorem dX11_mean_9 : decode cX11_mean 9 = .ok (.ifCond .ne 7, 3) := by decide +kernel
theorem dX11_mean_12 : decode cX11_mean 12 = .ok (.ldc2_w 184, 3) := by decide +kernel
theorem dX11_mean_15 : decode cX11_mean 15 = .ok (.lreturn, 1) := by decide +kernel
theorem dX11_mean_16 : decode cX11_mean 16 = .ok (.aload_n 0, 1) := by decide +kernel
theorem dX11_mean_17 : decode cX11_mean 17 = .ok (.invokevirtual 186, 3) := by decide +kernel
theorem dX11_mean_20 : decode cX11_mean 20 = .ok (.ifCond .ne 7, 3) := by decide +kernel
theorem dX11_mean_23 : decode cX11_mean 23 = .ok (.ldc2_w 194, 3) := by decide +kernel
theorem dX11_mean_26 : decode cX11_mean 26 = .ok (.lreturn, 1) := by decide +kernel
theorem dX11_mean_27 : decode cX11_mean 27 = .ok (.lconst 0, 1) := by decide +kernel
theorem dX11_mean_28 : decode cX11_mean 28 = .ok (.lstore_n 3, 1) := by decide +kernel
theorem dX11_mean_29 : decode cX11_mean 29 = .ok (.iconst 0, 1) := by decide +kernel
theorem dX11_mean_30 : decode cX11_mean 30 = .ok (.istore 5, 2) := by decide +kernel
theorem dX11_mean_32 : decode cX11_mean 32 = .ok (.iload 5, 2) := by decide +kernel
theorem dX11_mean_34 : decode cX11_mean 34 = .ok (.bipush 10, 2) := by decide +kernel
theorem dX11_mean_36 : decode cX11_mean 36 = .ok (.if_icmp .ge 83, 3) := by decide +kernel
theorem dX11_mean_39 : decode cX11_mean 39 = .ok (.iconst 1, 1) := by decide +kernel
theorem dX11_mean_40 : decode cX11_mean 40 = .ok (.istore 6, 2) := by decide +kernel
theorem dX11_mean_42 : decode cX11_mean 42 = .ok (.iload 6, 2) := by decide +kernel
theorem dX11_mean_44 : decode cX11_mean 44 = .ok (.iload_n 1, 1) := by decide +kernel
theorem dX11_mean_45 : decode cX11_mean 45 = .ok (.if_icmp .gt 68, 3) := by decide +kernel
theorem dX11_mean_48 : decode cX11_mean 48 = .ok (.lload_n 3, 1) := by decide +kernel
theorem dX11_mean_49 : decode cX11_mean 49 = .ok (.aload_n 0, 1) := by decide +kernel
theorem dX11_mean_50 : decode cX11_mean 50 = .ok (.iload 5, 2) := by decide +kernel
theorem dX11_mean_52 : decode cX11_mean 52 = .ok (.iload 6, 2) := by decide +kernel
theorem dX11_mean_54 : decode cX11_mean 54 = .ok (.invokevirtual 133, 3) := by decide +kernel
theorem dX11_mean_57 : decode cX11_mean 57 = .ok (.ifCond .eq 47, 3) := by decide +kernel
theorem dX11_mean_60 : decode cX11_mean 60 = .ok (.iload 6, 2) := by decide +kernel
theorem dX11_mean_62 : decode cX11_mean 62 = .ok (.i2l, 1) := by decide +kernel
theorem dX11_mean_63 : decode cX11_mean 63 = .ok (.iload_n 1, 1) := by decide +kernel
theorem dX11_mean_64 : decode cX11_mean 64 = .ok (.iload 6, 2) := by decide +kernel
theorem dX11_mean_66 : decode cX11_mean 66 = .ok (.invokestatic 168, 3) := by decide +kernel
theorem dX11_mean_69 : decode cX11_mean 69 = .ok (.lmul, 1) := by decide +kernel
theorem dX11_mean_70 : decode cX11_mean 70 = .ok (.aload_n 0, 1) := by decide +kernel
theorem dX11_mean_71 : decode cX11_mean 71 = .ok (.getfield 44, 3) := by decide +kernel
theorem dX11_mean_74 : decode cX11_mean 74 = .ok (.iload 5, 2) := by decide +kernel
theorem dX11_mean_76 : decode cX11_mean 76 = .ok (.iaload, 1) := by decide +kernel
theorem dX11_mean_77 : decode cX11_mean 77 = .ok (.iload 6, 2) := by decide +kernel
theorem dX11_mean_79 : decode cX11_mean 79 = .ok (.invokestatic 172, 3) := by decide +kernel
theorem dX11_mean_82 : decode cX11_mean 82 = .ok (.lmul, 1) := by decide +kernel
theorem dX11_mean_83 : decode cX11_mean 83 = .ok (.bipush 10, 2) := by decide +kernel
theorem dX11_mean_85 : decode cX11_mean 85 = .ok (.aload_n 0, 1) := by decide +kernel
theorem dX11_mean_86 : decode cX11_mean 86 = .ok (.getfield 44, 3) := by decide +kernel
theorem dX11_mean_89 : decode cX11_mean 89 = .ok (.iload 5, 2) := by decide +kernel
theorem dX11_mean_91 : decode cX11_mean 91 = .ok (.iaload, 1) := by decide +kernel
theorem dX11_mean_92 : decode cX11_mean 92 = .ok (.isub, 1) := by decide +kernel
theorem dX11_mean_93 : decode cX11_mean 93 = .ok (.iload_n 1, 1) := by decide +kernel
theorem dX11_mean_94 : decode cX11_mean 94 = .ok (.iload 6, 2) := by decide +kernel
theorem dX11_mean_96 : decode cX11_mean 96 = .ok (.isub, 1) := by decide +kernel
theorem dX11_mean_97 : decode cX11_mean 97 = .ok (.invokestatic 172, 3) := by decide +kernel
theorem dX11_mean_100 : decode cX11_mean 100 = .ok (.lmul, 1) := by decide +kernel
theorem dX11_mean_101 : decode cX11_mean 101 = .ok (.goto 4, 3) := by decide +kernel
theorem dX11_mean_104 : decode cX11_mean 104 = .ok (.lconst 0, 1) := by decide +kernel
theorem dX11_mean_105 : decode cX11_mean 105 = .ok (.ladd, 1) := by decide +kernel
theorem dX11_mean_106 : decode cX11_mean 106 = .ok (.lstore_n 3, 1) := by decide +kernel
theorem dX11_mean_107 : decode cX11_mean 107 = .ok (.iinc 6 1, 3) := by decide +kernel
theorem dX11_mean_110 : decode cX11_mean 110 = .ok (.goto (-68), 3) := by decide +kernel
theorem dX11_mean_113 : decode cX11_mean 113 = .ok (.iinc 5 1, 3) := by decide +kernel
theorem dX11_mean_116 : decode cX11_mean 116 = .ok (.goto (-84), 3) := by decide +kernel
theorem dX11_mean_119 : decode cX11_mean 119 = .ok (.lload_n 3, 1) := by decide +kernel
theorem dX11_mean_120 : decode cX11_mean 120 = .ok (.bipush 10, 2) := by decide +kernel
theorem dX11_mean_122 : decode cX11_mean 122 = .ok (.iload_n 1, 1) := by decide +kernel
theorem dX11_mean_123 : decode cX11_mean 123 = .ok (.invokestatic 172, 3) := by decide +kernel
theorem dX11_mean_126 : decode cX11_mean 126 = .ok (.iload_n 2, 1) := by decide +kernel
theorem dX11_mean_127 : decode cX11_mean 127 = .ok (.invokestatic 190, 3) := by decide +kernel
theorem dX11_mean_130 : decode cX11_mean 130 = .ok (.lreturn, 1) := by decide +kernel
theorem dX11_forget_0 : decode cX11_forget 0 = .ok (.aload_n 0, 1) := by decide +kernel
theorem dX11_forget_1 : decode cX11_forget 1 = .ok (.iload_n 1, 1) := by decide +kernel
theorem dX11_forget_2 : decode cX11_forget 2 = .ok (.invokevirtual 147, 3) := by decide +kernel
theorem dX11_forget_5 : decode cX11_forget 5 = .ok (.ifCond .ne 7, 3) := by decide +kernel
theorem dX11_forget_8 : decode cX11_forget 8 = .ok (.ldc2_w 196, 3) := by decide +kernel
theorem dX11_forget_11 : decode cX11_forget 11 = .ok (.lreturn, 1) := by decide +kernel
theorem dX11_forget_12 : decode cX11_forget 12 = .ok (.iload_n 2, 1) := by decide +kernel
theorem dX11_forget_13 : decode cX11_forget 13 = .ok (.i2l, 1) := by decide +kernel
theorem dX11_forget_14 : decode cX11_forget 14 = .ok (.lconst 0, 1) := by decide +kernel
theorem dX11_forget_15 : decode cX11_forget 15 = .ok (.ldc2_w 182, 3) := by decide +kernel
theorem dX11_forget_18 : decode cX11_forget 18 = .ok (.invokestatic 62, 3) := by decide +kernel
theorem dX11_forget_21 : decode cX11_forget 21 = .ok (.ifCond .ne 7, 3) := by decide +kernel
theorem dX11_forget_24 : decode cX11_forget 24 = .ok (.ldc2_w 184, 3) := by decide +kernel
theorem dX11_forget_27 : decode cX11_forget 27 = .ok (.lreturn, 1) := by decide +kernel
theorem dX11_forget_28 : decode cX11_forget 28 = .ok (.aload_n 0, 1) := by decide +kernel
theorem dX11_forget_29 : decode cX11_forget 29 = .ok (.invokevirtual 150, 3) := by decide +kernel
theorem dX11_forget_32 : decode cX11_forget 32 = .ok (.aload_n 0, 1) := by decide +kernel
theorem dX11_forget_33 : decode cX11_forget 33 = .ok (.aload_n 0, 1) := by decide +kernel
theorem dX11_forget_34 : decode cX11_forget 34 = .ok (.getfield 13, 3) := by decide +kernel
theorem dX11_forget_37 : decode cX11_forget 37 = .ok (.iload_n 1, 1) := by decide +kernel
theorem dX11_forget_38 : decode cX11_forget 38 = .ok (.iaload, 1) := by decide +kernel
theorem dX11_forget_39 : decode cX11_forget 39 = .ok (.invokevirtual 130, 3) := by decide +kernel
theorem dX11_forget_42 : decode cX11_forget 42 = .ok (.iconst 1, 1) := by decide +kernel
theorem dX11_forget_43 : decode cX11_forget 43 = .ok (.isub, 1) := by decide +kernel
theorem dX11_forget_44 : decode cX11_forget 44 = .ok (.istore 4, 2) := by decide +kernel
theorem dX11_forget_46 : decode cX11_forget 46 = .ok (.lconst 0, 1) := by decide +kernel
theorem dX11_forget_47 : decode cX11_forget 47 = .ok (.lstore 5, 2) := by decide +kernel
theorem dX11_forget_49 : decode cX11_forget 49 = .ok (.iconst 0, 1) := by decide +kernel
theorem dX11_forget_50 : decode cX11_forget 50 = .ok (.istore 7, 2) := by decide +kernel
theorem dX11_forget_52 : decode cX11_forget 52 = .ok (.iload 7, 2) := by decide +kernel
theorem dX11_forget_54 : decode cX11_forget 54 = .ok (.iload 4, 2) := by decide +kernel
theorem dX11_forget_56 : decode cX11_forget 56 = .ok (.if_icmp .gt 64, 3) := by decide +kernel
theorem dX11_forget_59 : decode cX11_forget 59 = .ok (.lload 5, 2) := by decide +kernel
theorem dX11_forget_61 : decode cX11_forget 61 = .ok (.aload_n 0, 1) := by decide +kernel
theorem dX11_forget_62 : decode cX11_forget 62 = .ok (.aload_n 0, 1) := by decide +kernel
theorem dX11_forget_63 : decode cX11_forget 63 = .ok (.getfield 13, 3) := by decide +kernel
theorem dX11_forget_66 : decode cX11_forget 66 = .ok (.iload_n 1, 1) := by decide +kernel
theorem dX11_forget_67 : decode cX11_forget 67 = .ok (.iaload, 1) := by decide +kernel
theorem dX11_forget_68 : decode cX11_forget 68 = .ok (.iload 7, 2) := by decide +kernel
theorem dX11_forget_70 : decode cX11_forget 70 = .ok (.iconst 1, 1) := by decide +kernel
theorem dX11_forget_71 : decode cX11_forget 71 = .ok (.iadd, 1) := by decide +kernel
theorem dX11_forget_72 : decode cX11_forget 72 = .ok (.invokevirtual 133, 3) := by decide +kernel
theorem dX11_forget_75 : decode cX11_forget 75 = .ok (.ifCond .eq 35, 3) := by decide +kernel
theorem dX11_forget_78 : decode cX11_forget 78 = .ok (.iload 4, 2) := by decide +kernel
theorem dX11_forget_80 : decode cX11_forget 80 = .ok (.iload 7, 2) := by decide +kernel
theorem dX11_forget_82 : decode cX11_forget 82 = .ok (.invokestatic 168, 3) := by decide +kernel
theorem dX11_forget_85 : decode cX11_forget 85 = .ok (.bipush 10, 2) := by decide +kernel
theorem dX11_forget_87 : decode cX11_forget 87 = .ok (.iload_n 2, 1) := by decide +kernel
theorem dX11_forget_88 : decode cX11_forget 88 = .ok (.isub, 1) := by decide +kernel
theorem dX11_forget_89 : decode cX11_forget 89 = .ok (.iload 7, 2) := by decide +kernel
theorem dX11_forget_91 : decode cX11_forget 91 = .ok (.iconst 1, 1) := by decide +kernel
theorem dX11_forget_92 : decode cX11_forget 92 = .ok (.iadd, 1) := by decide +kernel
theorem dX11_forget_93 : decode cX11_forget 93 = .ok (.invokestatic 172, 3) := by decide +kernel
theorem dX11_forget_96 : decode cX11_forget 96 = .ok (.lmul, 1) := by decide +kernel
theorem dX11_forget_97 : decode cX11_forget 97 = .ok (.iload_n 2, 1) := by decide +kernel
theorem dX11_forget_98 : decode cX11_forget 98 = .ok (.iload 4, 2) := by decide +kernel
theorem dX11_forget_100 : decode cX11_forget 100 = .ok (.iload 7, 2) := by decide +kernel
theorem dX11_forget_102 : decode cX11_forget 102 = .ok (.isub, 1) := by decide +kernel
theorem dX11_forget_103 : decode cX11_forget 103 = .ok (.invokestatic 172, 3) := by decide +kernel
theorem dX11_forget_106 : decode cX11_forget 106 = .ok (.lmul, 1) := by decide +kernel
theorem dX11_forget_107 : decode cX11_forget 107 = .ok (.goto 4, 3) := by decide +kernel
theorem dX11_forget_110 : decode cX11_forget 110 = .ok (.lconst 0, 1) := by decide +kernel
theorem dX11_forget_111 : decode cX11_forget 111 = .ok (.ladd, 1) := by decide +kernel
theorem dX11_forget_112 : decode cX11_forget 112 = .ok (.lstore 5, 2) := by decide +kernel
theorem dX11_forget_114 : decode cX11_forget 114 = .ok (.iinc 7 1, 3) := by decide +kernel
theorem dX11_forget_117 : decode cX11_forget 117 = .ok (.goto (-65), 3) := by decide +kernel
theorem dX11_forget_120 : decode cX11_forget 120 = .ok (.lload 5, 2) := by decide +kernel
theorem dX11_forget_122 : decode cX11_forget 122 = .ok (.bipush 10, 2) := by decide +kernel
theorem dX11_forget_124 : decode cX11_forget 124 = .ok (.iload 4, 2) := by decide +kernel
theorem dX11_forget_126 : decode cX11_forget 126 = .ok (.iconst 1, 1) := by decide +kernel
theorem dX11_forget_127 : decode cX11_forget 127 = .ok (.iadd, 1) := by decide +kernel
theorem dX11_forget_128 : decode cX11_forget 128 = .ok (.invokestatic 172, 3) := by decide +kernel
theorem dX11_forget_131 : decode cX11_forget 131 = .ok (.iload_n 3, 1) := by decide +kernel
theorem dX11_forget_132 : decode cX11_forget 132 = .ok (.invokestatic 190, 3) := by decide +kernel
theorem dX11_forget_135 : decode cX11_forget 135 = .ok (.lreturn, 1) := by decide +kernel
theorem dX11_rests_0 : decode cX11_rests 0 = .ok (.iload_n 1, 1) := by decide +kernel
theorem dX11_rests_1 : decode cX11_rests 1 = .ok (.i2l, 1) := by decide +kernel
theorem dX11_rests_2 : decode cX11_rests 2 = .ok (.lconst 0, 1) := by decide +kernel
theorem dX11_rests_3 : decode cX11_rests 3 = .ok (.ldc2_w 198, 3) := by decide +kernel
theorem dX11_rests_6 : decode cX11_rests 6 = .ok (.invokestatic 62, 3) := by decide +kernel
theorem dX11_rests_9 : decode cX11_rests 9 = .ok (.ifCond .ne 6, 3) := by decide +kernel
theorem dX11_rests_12 : decode cX11_rests 12 = .ok (.bipush (-2), 2) := by decide +kernel
theorem dX11_rests_14 : decode cX11_rests 14 = .ok (.ireturn, 1) := by decide +kernel
theorem dX11_rests_15 : decode cX11_rests 15 = .ok (.iconst 0, 1) := by decide +kernel
theorem dX11_rests_16 : decode cX11_rests 16 = .ok (.istore_n 2, 1) := by decide +kernel
theorem dX11_rests_17 : decode cX11_rests 17 = .ok (.aload_n 0, 1) := by decide +kernel
theorem dX11_rests_18 : decode cX11_rests 18 = .ok (.iload_n 1, 1) := by decide +kernel
theorem dX11_rests_19 : decode cX11_rests 19 = .ok (.putfield 127, 3) := by decide +kernel
theorem dX11_rests_22 : decode cX11_rests 22 = .ok (.iconst 0, 1) := by decide +kernel
theorem dX11_rests_23 : decode cX11_rests 23 = .ok (.istore_n 3, 1) := by decide +kernel
theorem dX11_rests_24 : decode cX11_rests 24 = .ok (.iload_n 3, 1) := by decide +kernel
theorem dX11_rests_25 : decode cX11_rests 25 = .ok (.i2l, 1) := by decide +kernel
theorem dX11_rests_26 : decode cX11_rests 26 = .ok (.bipush 10, 2) := by decide +kernel
theorem dX11_rests_28 : decode cX11_rests 28 = .ok (.iload_n 1, 1) := by decide +kernel
theorem dX11_rests_29 : decode cX11_rests 29 = .ok (.invokestatic 172, 3) := by decide +kernel
theorem dX11_rests_32 : decode cX11_rests 32 = .ok (.lcmp, 1) := by decide +kernel
theorem dX11_rests_33 : decode cX11_rests 33 = .ok (.ifCond .ge 131, 3) := by decide +kernel
theorem dX11_rests_36 : decode cX11_rests 36 = .ok (.iload_n 3, 1) := by decide +kernel
theorem dX11_rests_37 : decode cX11_rests 37 = .ok (.istore 4, 2) := by decide +kernel
theorem dX11_rests_39 : decode cX11_rests 39 = .ok (.iconst 1, 1) := by decide +kernel
theorem dX11_rests_40 : decode cX11_rests 40 = .ok (.istore 5, 2) := by decide +kernel
theorem dX11_rests_42 : decode cX11_rests 42 = .ok (.iconst 0, 1) := by decide +kernel
theorem dX11_rests_43 : decode cX11_rests 43 = .ok (.istore 6, 2) := by decide +kernel
theorem dX11_rests_45 : decode cX11_rests 45 = .ok (.iload 6, 2) := by decide +kernel
theorem dX11_rests_47 : decode cX11_rests 47 = .ok (.iload_n 1, 1) := by decide +kernel
theorem dX11_rests_48 : decode cX11_rests 48 = .ok (.if_icmp .ge 54, 3) := by decide +kernel
theorem dX11_rests_51 : decode cX11_rests 51 = .ok (.aload_n 0, 1) := by decide +kernel
theorem dX11_rests_52 : decode cX11_rests 52 = .ok (.getfield 19, 3) := by decide +kernel
theorem dX11_rests_55 : decode cX11_rests 55 = .ok (.iload 6, 2) := by decide +kernel
theorem dX11_rests_57 : decode cX11_rests 57 = .ok (.iload 4, 2) := by decide +kernel
theorem dX11_rests_59 : decode cX11_rests 59 = .ok (.bipush 10, 2) := by decide +kernel
theorem dX11_rests_61 : decode cX11_rests 61 = .ok (.irem, 1) := by decide +kernel
theorem dX11_rests_62 : decode cX11_rests 62 = .ok (.iastore, 1) := by decide +kernel
theorem dX11_rests_63 : decode cX11_rests 63 = .ok (.iload 4, 2) := by decide +kernel
theorem dX11_rests_65 : decode cX11_rests 65 = .ok (.bipush 10, 2) := by decide +kernel
theorem dX11_rests_67 : decode cX11_rests 67 = .ok (.idiv, 1) := by decide +kernel
theorem dX11_rests_68 : decode cX11_rests 68 = .ok (.istore 4, 2) := by decide +kernel
theorem dX11_rests_70 : decode cX11_rests 70 = .ok (.iload 5, 2) := by decide +kernel
theorem dX11_rests_72 : decode cX11_rests 72 = .ok (.ifCond .eq 21, 3) := by decide +kernel
theorem dX11_rests_75 : decode cX11_rests 75 = .ok (.aload_n 0, 1) := by decide +kernel
theorem dX11_rests_76 : decode cX11_rests 76 = .ok (.aload_n 0, 1) := by decide +kernel
theorem dX11_rests_77 : decode cX11_rests 77 = .ok (.getfield 19, 3) := by decide +kernel
theorem dX11_rests_80 : decode cX11_rests 80 = .ok (.iload 6, 2) := by decide +kernel
theorem dX11_rests_82 : decode cX11_rests 82 = .ok (.iaload, 1) := by decide +kernel
theorem dX11_rests_83 : decode cX11_rests 83 = .ok (.invokevirtual 144, 3) := by decide +kernel
theorem dX11_rests_86 : decode cX11_rests 86 = .ok (.ifCond .ne 7, 3) := by decide +kernel
theorem dX11_rests_89 : decode cX11_rests 89 = .ok (.iconst 1, 1) := by decide +kernel
theorem dX11_rests_90 : decode cX11_rests 90 = .ok (.goto 4, 3) := by decide +kernel
theorem dX11_rests_93 : decode cX11_rests 93 = .ok (.iconst 0, 1) := by decide +kernel
theorem dX11_rests_94 : decode cX11_rests 94 = .ok (.istore 5, 2) := by decide +kernel
theorem dX11_rests_96 : decode cX11_rests 96 = .ok (.iinc 6 1, 3) := by decide +kernel
theorem dX11_rests_99 : decode cX11_rests 99 = .ok (.goto (-54), 3) := by decide +kernel
theorem dX11_rests_102 : decode cX11_rests 102 = .ok (.iconst 0, 1) := by decide +kernel
theorem dX11_rests_103 : decode cX11_rests 103 = .ok (.istore 6, 2) := by decide +kernel
theorem dX11_rests_105 : decode cX11_rests 105 = .ok (.iload 6, 2) := by decide +kernel
theorem dX11_rests_107 : decode cX11_rests 107 = .ok (.iload_n 1, 1) := by decide +kernel
theorem dX11_rests_108 : decode cX11_rests 108 = .ok (.if_icmp .ge 37, 3) := by decide +kernel
theorem dX11_rests_111 : decode cX11_rests 111 = .ok (.iload 5, 2) := by decide +kernel
theorem dX11_rests_113 : decode cX11_rests 113 = .ok (.ifCond .eq 32, 3) := by decide +kernel
theorem dX11_rests_116 : decode cX11_rests 116 = .ok (.aload_n 0, 1) := by decide +kernel
theorem dX11_rests_117 : decode cX11_rests 117 = .ok (.iload 6, 2) := by decide +kernel
theorem dX11_rests_119 : decode cX11_rests 119 = .ok (.invokevirtual 153, 3) := by decide +kernel
theorem dX11_rests_122 : decode cX11_rests 122 = .ok (.aload_n 0, 1) := by decide +kernel
theorem dX11_rests_123 : decode cX11_rests 123 = .ok (.getfield 19, 3) := by decide +kernel
theorem dX11_rests_126 : decode cX11_rests 126 = .ok (.iload 6, 2) := by decide +kernel
theorem dX11_rests_128 : decode cX11_rests 128 = .ok (.iaload, 1) := by decide +kernel
theorem dX11_rests_129 : decode cX11_rests 129 = .ok (.if_icmp .ne 7, 3) := by decide +kernel
theorem dX11_rests_132 : decode cX11_rests 132 = .ok (.iconst 1, 1) := by decide +kernel
theorem dX11_rests_133 : decode cX11_rests 133 = .ok (.goto 4, 3) := by decide +kernel
theorem dX11_rests_136 : decode cX11_rests 136 = .ok (.iconst 0, 1) := by decide +kernel
theorem dX11_rests_137 : decode cX11_rests 137 = .ok (.istore 5, 2) := by decide +kernel
theorem dX11_rests_139 : decode cX11_rests 139 = .ok (.iinc 6 1, 3) := by decide +kernel
theorem dX11_rests_142 : decode cX11_rests 142 = .ok (.goto (-37), 3) := by decide +kernel
theorem dX11_rests_145 : decode cX11_rests 145 = .ok (.iload_n 2, 1) := by decide +kernel
theorem dX11_rests_146 : decode cX11_rests 146 = .ok (.iload 5, 2) := by decide +kernel
theorem dX11_rests_148 : decode cX11_rests 148 = .ok (.ifCond .eq 7, 3) := by decide +kernel
theorem dX11_rests_151 : decode cX11_rests 151 = .ok (.iconst 1, 1) := by decide +kernel
theorem dX11_rests_152 : decode cX11_rests 152 = .ok (.goto 4, 3) := by decide +kernel
theorem dX11_rests_155 : decode cX11_rests 155 = .ok (.iconst 0, 1) := by decide +kernel
theorem dX11_rests_156 : decode cX11_rests 156 = .ok (.iadd, 1) := by decide +kernel
theorem dX11_rests_157 : decode cX11_rests 157 = .ok (.istore_n 2, 1) := by decide +kernel
theorem dX11_rests_158 : decode cX11_rests 158 = .ok (.iinc 3 1, 3) := by decide +kernel
theorem dX11_rests_161 : decode cX11_rests 161 = .ok (.goto (-137), 3) := by decide +kernel
theorem dX11_rests_164 : decode cX11_rests 164 = .ok (.iload_n 2, 1) := by decide +kernel
theorem dX11_rests_165 : decode cX11_rests 165 = .ok (.ireturn, 1) := by decide +kernel
theorem dX11_pay_0 : decode cX11_pay 0 = .ok (.iload_n 1, 1) := by decide +kernel
theorem dX11_pay_1 : decode cX11_pay 1 = .ok (.i2l, 1) := by decide +kernel
theorem dX11_pay_2 : decode cX11_pay 2 = .ok (.lconst 0, 1) := by decide +kernel
theorem dX11_pay_3 : decode cX11_pay 3 = .ok (.ldc2_w 60, 3) := by decide +kernel
theorem dX11_pay_6 : decode cX11_pay 6 = .ok (.invokestatic 62, 3) := by decide +kernel
theorem dX11_pay_9 : decode cX11_pay 9 = .ok (.ifCond .eq 15, 3) := by decide +kernel
theorem dX11_pay_12 : decode cX11_pay 12 = .ok (.iload_n 2, 1) := by decide +kernel
theorem dX11_pay_13 : decode cX11_pay 13 = .ok (.i2l, 1) := by decide +kernel
theorem dX11_pay_14 : decode cX11_pay 14 = .ok (.lconst 0, 1) := by decide +kernel
theorem dX11_pay_15 : decode cX11_pay 15 = .ok (.ldc2_w 200, 3) := by decide +kernel
theorem dX11_pay_18 : decode cX11_pay 18 = .ok (.invokestatic 62, 3) := by decide +kernel
theorem dX11_pay_21 : decode cX11_pay 21 = .ok (.ifCond .ne 6, 3) := by decide +kernel
theorem dX11_pay_24 : decode cX11_pay 24 = .ok (.bipush (-2), 2) := by decide +kernel
theorem dX11_pay_26 : decode cX11_pay 26 = .ok (.ireturn, 1) := by decide +kernel
theorem dX11_pay_27 : decode cX11_pay 27 = .ok (.aload_n 0, 1) := by decide +kernel
theorem dX11_pay_28 : decode cX11_pay 28 = .ok (.getfield 202, 3) := by decide +kernel
theorem dX11_pay_31 : decode cX11_pay 31 = .ok (.bipush 12, 2) := by decide +kernel
theorem dX11_pay_33 : decode cX11_pay 33 = .ok (.if_icmp .ne 6, 3) := by decide +kernel
theorem dX11_pay_36 : decode cX11_pay 36 = .ok (.bipush (-4), 2) := by decide +kernel
theorem dX11_pay_38 : decode cX11_pay 38 = .ok (.ireturn, 1) := by decide +kernel
theorem dX11_pay_39 : decode cX11_pay 39 = .ok (.aload_n 0, 1) := by decide +kernel
theorem dX11_pay_40 : decode cX11_pay 40 = .ok (.getfield 47, 3) := by decide +kernel
theorem dX11_pay_43 : decode cX11_pay 43 = .ok (.aload_n 0, 1) := by decide +kernel
theorem dX11_pay_44 : decode cX11_pay 44 = .ok (.getfield 202, 3) := by decide +kernel
theorem dX11_pay_47 : decode cX11_pay 47 = .ok (.iload_n 1, 1) := by decide +kernel
theorem dX11_pay_48 : decode cX11_pay 48 = .ok (.iastore, 1) := by decide +kernel
theorem dX11_pay_49 : decode cX11_pay 49 = .ok (.aload_n 0, 1) := by decide +kernel
theorem dX11_pay_50 : decode cX11_pay 50 = .ok (.getfield 50, 3) := by decide +kernel
theorem dX11_pay_53 : decode cX11_pay 53 = .ok (.aload_n 0, 1) := by decide +kernel
theorem dX11_pay_54 : decode cX11_pay 54 = .ok (.getfield 202, 3) := by decide +kernel
theorem dX11_pay_57 : decode cX11_pay 57 = .ok (.iload_n 2, 1) := by decide +kernel
theorem dX11_pay_58 : decode cX11_pay 58 = .ok (.iastore, 1) := by decide +kernel
theorem dX11_pay_59 : decode cX11_pay 59 = .ok (.aload_n 0, 1) := by decide +kernel
theorem dX11_pay_60 : decode cX11_pay 60 = .ok (.dup, 1) := by decide +kernel
theorem dX11_pay_61 : decode cX11_pay 61 = .ok (.getfield 202, 3) := by decide +kernel
theorem dX11_pay_64 : decode cX11_pay 64 = .ok (.iconst 1, 1) := by decide +kernel
theorem dX11_pay_65 : decode cX11_pay 65 = .ok (.iadd, 1) := by decide +kernel
theorem dX11_pay_66 : decode cX11_pay 66 = .ok (.putfield 202, 3) := by decide +kernel
theorem dX11_pay_69 : decode cX11_pay 69 = .ok (.aload_n 0, 1) := by decide +kernel
theorem dX11_pay_70 : decode cX11_pay 70 = .ok (.getfield 202, 3) := by decide +kernel
theorem dX11_pay_73 : decode cX11_pay 73 = .ok (.ireturn, 1) := by decide +kernel
theorem dX11_unpay_0 : decode cX11_unpay 0 = .ok (.aload_n 0, 1) := by decide +kernel
theorem dX11_unpay_1 : decode cX11_unpay 1 = .ok (.getfield 202, 3) := by decide +kernel
theorem dX11_unpay_4 : decode cX11_unpay 4 = .ok (.istore_n 1, 1) := by decide +kernel
theorem dX11_unpay_5 : decode cX11_unpay 5 = .ok (.aload_n 0, 1) := by decide +kernel
theorem dX11_unpay_6 : decode cX11_unpay 6 = .ok (.iconst 0, 1) := by decide +kernel
theorem dX11_unpay_7 : decode cX11_unpay 7 = .ok (.putfield 202, 3) := by decide +kernel
theorem dX11_unpay_10 : decode cX11_unpay 10 = .ok (.iload_n 1, 1) := by decide +kernel
theorem dX11_unpay_11 : decode cX11_unpay 11 = .ok (.ireturn, 1) := by decide +kernel
theorem dX11_cheated_0 : decode cX11_cheated 0 = .ok (.aload_n 0, 1) := by decide +kernel
theorem dX11_cheated_1 : decode cX11_cheated 1 = .ok (.invokevirtual 150, 3) := by decide +kernel
theorem dX11_cheated_4 : decode cX11_cheated 4 = .ok (.iconst 0, 1) := by decide +kernel
theorem dX11_cheated_5 : decode cX11_cheated 5 = .ok (.istore_n 1, 1) := by decide +kernel
theorem dX11_cheated_6 : decode cX11_cheated 6 = .ok (.iload_n 1, 1) := by decide +kernel
theorem dX11_cheated_7 : decode cX11_cheated 7 = .ok (.aload_n 0, 1) := by decide +kernel
theorem dX11_cheated_8 : decode cX11_cheated 8 = .ok (.getfield 109, 3) := by decide +kernel
theorem dX11_cheated_11 : decode cX11_cheated 11 = .ok (.if_icmp .ge 65, 3) := by decide +kernel
theorem dX11_cheated_14 : decode cX11_cheated 14 = .ok (.aload_n 0, 1) := by decide +kernel
theorem dX11_cheated_15 : decode cX11_cheated 15 = .ok (.iload_n 1, 1) := by decide +kernel
theorem dX11_cheated_16 : decode cX11_cheated 16 = .ok (.invokevirtual 141, 3) := by decide +kernel
theorem dX11_cheated_19 : decode cX11_cheated 19 = .ok (.istore_n 2, 1) := by decide +kernel
theorem dX11_cheated_20 : decode cX11_cheated 20 = .ok (.iload_n 2, 1) := by decide +kernel
theorem dX11_cheated_21 : decode cX11_cheated 21 = .ok (.istore_n 3, 1) := by decide +kernel
theorem dX11_cheated_22 : decode cX11_cheated 22 = .ok (.iconst 0, 1) := by decide +kernel
theorem dX11_cheated_23 : decode cX11_cheated 23 = .ok (.istore 4, 2) := by decide +kernel
theorem dX11_cheated_25 : decode cX11_cheated 25 = .ok (.iload 4, 2) := by decide +kernel
theorem dX11_cheated_27 : decode cX11_cheated 27 = .ok (.aload_n 0, 1) := by decide +kernel
theorem dX11_cheated_28 : decode cX11_cheated 28 = .ok (.getfield 202, 3) := by decide +kernel
theorem dX11_cheated_31 : decode cX11_cheated 31 = .ok (.if_icmp .ge 32, 3) := by decide +kernel
theorem dX11_cheated_34 : decode cX11_cheated 34 = .ok (.aload_n 0, 1) := by decide +kernel
theorem dX11_cheated_35 : decode cX11_cheated 35 = .ok (.getfield 47, 3) := by decide +kernel
theorem dX11_cheated_38 : decode cX11_cheated 38 = .ok (.iload 4, 2) := by decide +kernel
theorem dX11_cheated_40 : decode cX11_cheated 40 = .ok (.iaload, 1) := by decide +kernel
theorem dX11_cheated_41 : decode cX11_cheated 41 = .ok (.iload_n 1, 1) := by decide +kernel
theorem dX11_cheated_42 : decode cX11_cheated 42 = .ok (.if_icmp .ne 13, 3) := by decide +kernel
theorem dX11_cheated_45 : decode cX11_cheated 45 = .ok (.aload_n 0, 1) := by decide +kernel
theorem dX11_cheated_46 : decode cX11_cheated 46 = .ok (.getfield 50, 3) := by decide +kernel
theorem dX11_cheated_49 : decode cX11_cheated 49 = .ok (.iload 4, 2) := by decide +kernel
theorem dX11_cheated_51 : decode cX11_cheated 51 = .ok (.iaload, 1) := by decide +kernel
theorem dX11_cheated_52 : decode cX11_cheated 52 = .ok (.goto 4, 3) := by decide +kernel
theorem dX11_cheated_55 : decode cX11_cheated 55 = .ok (.iload_n 3, 1) := by decide +kernel
theorem dX11_cheated_56 : decode cX11_cheated 56 = .ok (.istore_n 3, 1) := by decide +kernel
theorem dX11_cheated_57 : decode cX11_cheated 57 = .ok (.iinc 4 1, 3) := by decide +kernel
theorem dX11_cheated_60 : decode cX11_cheated 60 = .ok (.goto (-35), 3) := by decide +kernel
theorem dX11_cheated_63 : decode cX11_cheated 63 = .ok (.iload_n 3, 1) := by decide +kernel
theorem dX11_cheated_64 : decode cX11_cheated 64 = .ok (.iload_n 2, 1) := by decide +kernel
theorem dX11_cheated_65 : decode cX11_cheated 65 = .ok (.if_icmp .eq 5, 3) := by decide +kernel
theorem dX11_cheated_68 : decode cX11_cheated 68 = .ok (.iload_n 1, 1) := by decide +kernel
theorem dX11_cheated_69 : decode cX11_cheated 69 = .ok (.ireturn, 1) := by decide +kernel
theorem dX11_cheated_70 : decode cX11_cheated 70 = .ok (.iinc 1 1, 3) := by decide +kernel
theorem dX11_cheated_73 : decode cX11_cheated 73 = .ok (.goto (-67), 3) := by decide +kernel
theorem dX11_cheated_76 : decode cX11_cheated 76 = .ok (.bipush (-9), 2) := by decide +kernel
theorem dX11_cheated_78 : decode cX11_cheated 78 = .ok (.ireturn, 1) := by decide +kernel
theorem dX11_seed_0 : decode cX11_seed 0 = .ok (.aload_n 0, 1) := by decide +kernel
theorem dX11_seed_1 : decode cX11_seed 1 = .ok (.getfield 205, 3) := by decide +kernel
theorem dX11_seed_4 : decode cX11_seed 4 = .ok (.lstore_n 3, 1) := by decide +kernel
theorem dX11_seed_5 : decode cX11_seed 5 = .ok (.aload_n 0, 1) := by decide +kernel
theorem dX11_seed_6 : decode cX11_seed 6 = .ok (.lload_n 1, 1) := by decide +kernel
theorem dX11_seed_7 : decode cX11_seed 7 = .ok (.putfield 205, 3) := by decide +kernel
theorem dX11_seed_10 : decode cX11_seed 10 = .ok (.lload_n 3, 1) := by decide +kernel
theorem dX11_seed_11 : decode cX11_seed 11 = .ok (.lreturn, 1) := by decide +kernel
theorem dX11_open_0 : decode cX11_open 0 = .ok (.iconst 0, 1) := by decide +kernel
theorem dX11_open_1 : decode cX11_open 1 = .ok (.istore_n 2, 1) := by decide +kernel
theorem dX11_open_2 : decode cX11_open 2 = .ok (.iload_n 1, 1) := by decide +kernel
theorem dX11_open_3 : decode cX11_open 3 = .ok (.istore_n 3, 1) := by decide +kernel
theorem dX11_open_4 : decode cX11_open 4 = .ok (.iload_n 3, 1) := by decide +kernel
theorem dX11_open_5 : decode cX11_open 5 = .ok (.ifCond .gt 11, 3) := by decide +kernel
theorem dX11_open_8 : decode cX11_open 8 = .ok (.aload_n 0, 1) := by decide +kernel
theorem dX11_open_9 : decode cX11_open 9 = .ok (.iload_n 2, 1) := by decide +kernel
theorem dX11_open_10 : decode cX11_open 10 = .ok (.invokevirtual 144, 3) := by decide +kernel
theorem dX11_open_13 : decode cX11_open 13 = .ok (.ifCond .eq 25, 3) := by decide +kernel
theorem dX11_open_16 : decode cX11_open 16 = .ok (.iload_n 3, 1) := by decide +kernel
theorem dX11_open_17 : decode cX11_open 17 = .ok (.aload_n 0, 1) := by decide +kernel
theorem dX11_open_18 : decode cX11_open 18 = .ok (.iload_n 2, 1) := by decide +kernel
theorem dX11_open_19 : decode cX11_open 19 = .ok (.invokevirtual 144, 3) := by decide +kernel
theorem dX11_open_22 : decode cX11_open 22 = .ok (.ifCond .eq 7, 3) := by decide +kernel
theorem dX11_open_25 : decode cX11_open 25 = .ok (.iconst 0, 1) := by decide +kernel
theorem dX11_open_26 : decode cX11_open 26 = .ok (.goto 4, 3) := by decide +kernel
theorem dX11_open_29 : decode cX11_open 29 = .ok (.iconst 1, 1) := by decide +kernel
theorem dX11_open_30 : decode cX11_open 30 = .ok (.isub, 1) := by decide +kernel
theorem dX11_open_31 : decode cX11_open 31 = .ok (.istore_n 3, 1) := by decide +kernel
theorem dX11_open_32 : decode cX11_open 32 = .ok (.iinc 2 1, 3) := by decide +kernel
theorem dX11_open_35 : decode cX11_open 35 = .ok (.goto (-31), 3) := by decide +kernel
theorem dX11_open_38 : decode cX11_open 38 = .ok (.iload_n 2, 1) := by decide +kernel
theorem dX11_open_39 : decode cX11_open 39 = .ok (.ireturn, 1) := by decide +kernel
theorem dX11_won_0 : decode cX11_won 0 = .ok (.aload_n 0, 1) := by decide +kernel
theorem dX11_won_1 : decode cX11_won 1 = .ok (.iload_n 1, 1) := by decide +kernel
theorem dX11_won_2 : decode cX11_won 2 = .ok (.invokevirtual 147, 3) := by decide +kernel
theorem dX11_won_5 : decode cX11_won 5 = .ok (.ifCond .ne 5, 3) := by decide +kernel
theorem dX11_won_8 : decode cX11_won 8 = .ok (.iconst (-1), 1) := by decide +kernel
theorem dX11_won_9 : decode cX11_won 9 = .ok (.ireturn, 1) := by decide +kernel
theorem dX11_won_10 : decode cX11_won 10 = .ok (.iload_n 2, 1) := by decide +kernel
theorem dX11_won_11 : decode cX11_won 11 = .ok (.i2l, 1) := by decide +kernel
theorem dX11_won_12 : decode cX11_won 12 = .ok (.lconst 1, 1) := by decide +kernel
theorem dX11_won_13 : decode cX11_won 13 = .ok (.ldc2_w 209, 3) := by decide +kernel
theorem dX11_won_16 : decode cX11_won 16 = .ok (.invokestatic 62, 3) := by decide +kernel
theorem dX11_won_19 : decode cX11_won 19 = .ok (.ifCond .ne 6, 3) := by decide +kernel
theorem dX11_won_22 : decode cX11_won 22 = .ok (.bipush (-2), 2) := by decide +kernel
theorem dX11_won_24 : decode cX11_won 24 = .ok (.ireturn, 1) := by decide +kernel
theorem dX11_won_25 : decode cX11_won 25 = .ok (.iconst 0, 1) := by decide +kernel
theorem dX11_won_26 : decode cX11_won 26 = .ok (.istore_n 3, 1) := by decide +kernel
theorem dX11_won_27 : decode cX11_won 27 = .ok (.aload_n 0, 1) := by decide +kernel
theorem dX11_won_28 : decode cX11_won 28 = .ok (.aload_n 0, 1) := by decide +kernel
theorem dX11_won_29 : decode cX11_won 29 = .ok (.getfield 109, 3) := by decide +kernel
theorem dX11_won_32 : decode cX11_won 32 = .ok (.putfield 127, 3) := by decide +kernel
theorem dX11_won_35 : decode cX11_won 35 = .ok (.iconst 0, 1) := by decide +kernel
theorem dX11_won_36 : decode cX11_won 36 = .ok (.istore 4, 2) := by decide +kernel
theorem dX11_won_38 : decode cX11_won 38 = .ok (.iload 4, 2) := by decide +kernel
theorem dX11_won_40 : decode cX11_won 40 = .ok (.iload_n 2, 1) := by decide +kernel
theorem dX11_won_41 : decode cX11_won 41 = .ok (.if_icmp .ge 82, 3) := by decide +kernel
theorem dX11_won_44 : decode cX11_won 44 = .ok (.iconst 0, 1) := by decide +kernel
theorem dX11_won_45 : decode cX11_won 45 = .ok (.istore 5, 2) := by decide +kernel
theorem dX11_won_47 : decode cX11_won 47 = .ok (.iload 5, 2) := by decide +kernel
theorem dX11_won_49 : decode cX11_won 49 = .ok (.aload_n 0, 1) := by decide +kernel
theorem dX11_won_50 : decode cX11_won 50 = .ok (.getfield 109, 3) := by decide +kernel
theorem dX11_won_53 : decode cX11_won 53 = .ok (.if_icmp .ge 56, 3) := by decide +kernel
theorem dX11_won_56 : decode cX11_won 56 = .ok (.aload_n 0, 1) := by decide +kernel
theorem dX11_won_57 : decode cX11_won 57 = .ok (.aload_n 0, 1) := by decide +kernel
theorem dX11_won_58 : decode cX11_won 58 = .ok (.getfield 205, 3) := by decide +kernel
theorem dX11_won_61 : decode cX11_won 61 = .ok (.ldc2_w 211, 3) := by decide +kernel
theorem dX11_won_64 : decode cX11_won 64 = .ok (.lmul, 1) := by decide +kernel
theorem dX11_won_65 : decode cX11_won 65 = .ok (.ldc2_w 213, 3) := by decide +kernel
theorem dX11_won_68 : decode cX11_won 68 = .ok (.ladd, 1) := by decide +kernel
theorem dX11_won_69 : decode cX11_won 69 = .ok (.putfield 205, 3) := by decide +kernel
theorem dX11_won_72 : decode cX11_won 72 = .ok (.aload_n 0, 1) := by decide +kernel
theorem dX11_won_73 : decode cX11_won 73 = .ok (.getfield 19, 3) := by decide +kernel
theorem dX11_won_76 : decode cX11_won 76 = .ok (.iload 5, 2) := by decide +kernel
theorem dX11_won_78 : decode cX11_won 78 = .ok (.aload_n 0, 1) := by decide +kernel
theorem dX11_won_79 : decode cX11_won 79 = .ok (.aload_n 0, 1) := by decide +kernel
theorem dX11_won_80 : decode cX11_won 80 = .ok (.getfield 205, 3) := by decide +kernel
theorem dX11_won_83 : decode cX11_won 83 = .ok (.bipush 33, 2) := by decide +kernel
theorem dX11_won_85 : decode cX11_won 85 = .ok (.lushr, 1) := by decide +kernel
theorem dX11_won_86 : decode cX11_won 86 = .ok (.bipush 10, 2) := by decide +kernel
theorem dX11_won_88 : decode cX11_won 88 = .ok (.aload_n 0, 1) := by decide +kernel
theorem dX11_won_89 : decode cX11_won 89 = .ok (.getfield 112, 3) := by decide +kernel
theorem dX11_won_92 : decode cX11_won 92 = .ok (.invokestatic 86, 3) := by decide +kernel
theorem dX11_won_95 : decode cX11_won 95 = .ok (.isub, 1) := by decide +kernel
theorem dX11_won_96 : decode cX11_won 96 = .ok (.i2l, 1) := by decide +kernel
theorem dX11_won_97 : decode cX11_won 97 = .ok (.lrem, 1) := by decide +kernel
theorem dX11_won_98 : decode cX11_won 98 = .ok (.l2i, 1) := by decide +kernel
theorem dX11_won_99 : decode cX11_won 99 = .ok (.invokevirtual 215, 3) := by decide +kernel
theorem dX11_won_102 : decode cX11_won 102 = .ok (.iastore, 1) := by decide +kernel
theorem dX11_won_103 : decode cX11_won 103 = .ok (.iinc 5 1, 3) := by decide +kernel
theorem dX11_won_106 : decode cX11_won 106 = .ok (.goto (-59), 3) := by decide +kernel
theorem dX11_won_109 : decode cX11_won 109 = .ok (.iload_n 3, 1) := by decide +kernel
theorem dX11_won_110 : decode cX11_won 110 = .ok (.aload_n 0, 1) := by decide +kernel
theorem dX11_won_111 : decode cX11_won 111 = .ok (.iload_n 1, 1) := by decide +kernel
theorem dX11_won_112 : decode cX11_won 112 = .ok (.invokevirtual 141, 3) := by decide +kernel
theorem dX11_won_115 : decode cX11_won 115 = .ok (.iadd, 1) := by decide +kernel
theorem dX11_won_116 : decode cX11_won 116 = .ok (.istore_n 3, 1) := by decide +kernel
theorem dX11_won_117 : decode cX11_won 117 = .ok (.iinc 4 1, 3) := by decide +kernel
theorem dX11_won_120 : decode cX11_won 120 = .ok (.goto (-82), 3) := by decide +kernel
theorem dX11_won_123 : decode cX11_won 123 = .ok (.iload_n 3, 1) := by decide +kernel
theorem dX11_won_124 : decode cX11_won 124 = .ok (.ireturn, 1) := by decide +kernel
theorem dX11_keep_0 : decode cX11_keep 0 = .ok (.iload_n 1, 1) := by decide +kernel
theorem dX11_keep_1 : decode cX11_keep 1 = .ok (.i2l, 1) := by decide +kernel
theorem dX11_keep_2 : decode cX11_keep 2 = .ok (.lconst 0, 1) := by decide +kernel
theorem dX11_keep_3 : decode cX11_keep 3 = .ok (.lconst 1, 1) := by decide +kernel
theorem dX11_keep_4 : decode cX11_keep 4 = .ok (.invokestatic 62, 3) := by decide +kernel
theorem dX11_keep_7 : decode cX11_keep 7 = .ok (.ifCond .ne 5, 3) := by decide +kernel
theorem dX11_keep_10 : decode cX11_keep 10 = .ok (.iconst (-1), 1) := by decide +kernel
theorem dX11_keep_11 : decode cX11_keep 11 = .ok (.ireturn, 1) := by decide +kernel
theorem dX11_keep_12 : decode cX11_keep 12 = .ok (.aload_n 0, 1) := by decide +kernel
theorem dX11_keep_13 : decode cX11_keep 13 = .ok (.getfield 53, 3) := by decide +kernel
theorem dX11_keep_16 : decode cX11_keep 16 = .ok (.iload_n 1, 1) := by decide +kernel
theorem dX11_keep_17 : decode cX11_keep 17 = .ok (.iconst 1, 1) := by decide +kernel
theorem dX11_keep_18 : decode cX11_keep 18 = .ok (.bastore, 1) := by decide +kernel
theorem dX11_keep_19 : decode cX11_keep 19 = .ok (.iconst 0, 1) := by decide +kernel
theorem dX11_keep_20 : decode cX11_keep 20 = .ok (.istore_n 2, 1) := by decide +kernel
theorem dX11_keep_21 : decode cX11_keep 21 = .ok (.iload_n 2, 1) := by decide +kernel
theorem dX11_keep_22 : decode cX11_keep 22 = .ok (.bipush 9, 2) := by decide +kernel
theorem dX11_keep_24 : decode cX11_keep 24 = .ok (.if_icmp .ge 26, 3) := by decide +kernel
theorem dX11_keep_27 : decode cX11_keep 27 = .ok (.aload_n 0, 1) := by decide +kernel
theorem dX11_keep_28 : decode cX11_keep 28 = .ok (.getfield 57, 3) := by decide +kernel
theorem dX11_keep_31 : decode cX11_keep 31 = .ok (.bipush 10, 2) := by decide +kernel
theorem dX11_keep_33 : decode cX11_keep 33 = .ok (.iload_n 1, 1) := by decide +kernel
theorem dX11_keep_34 : decode cX11_keep 34 = .ok (.imul, 1) := by decide +kernel
theorem dX11_keep_35 : decode cX11_keep 35 = .ok (.iload_n 2, 1) := by decide +kernel
theorem dX11_keep_36 : decode cX11_keep 36 = .ok (.iadd, 1) := by decide +kernel
theorem dX11_keep_37 : decode cX11_keep 37 = .ok (.aload_n 0, 1) := by decide +kernel
theorem dX11_keep_38 : decode cX11_keep 38 = .ok (.getfield 13, 3) := by decide +kernel
theorem dX11_keep_41 : decode cX11_keep 41 = .ok (.iload_n 2, 1) := by decide +kernel
theorem dX11_keep_42 : decode cX11_keep 42 = .ok (.iaload, 1) := by decide +kernel
theorem dX11_keep_43 : decode cX11_keep 43 = .ok (.iastore, 1) := by decide +kernel
theorem dX11_keep_44 : decode cX11_keep 44 = .ok (.iinc 2 1, 3) := by decide +kernel
theorem dX11_keep_47 : decode cX11_keep 47 = .ok (.goto (-26), 3) := by decide +kernel
theorem dX11_keep_50 : decode cX11_keep 50 = .ok (.aload_n 0, 1) := by decide +kernel
theorem dX11_keep_51 : decode cX11_keep 51 = .ok (.getfield 57, 3) := by decide +kernel
theorem dX11_keep_54 : decode cX11_keep 54 = .ok (.bipush 10, 2) := by decide +kernel
theorem dX11_keep_56 : decode cX11_keep 56 = .ok (.iload_n 1, 1) := by decide +kernel
theorem dX11_keep_57 : decode cX11_keep 57 = .ok (.imul, 1) := by decide +kernel
theorem dX11_keep_58 : decode cX11_keep 58 = .ok (.bipush 9, 2) := by decide +kernel
theorem dX11_keep_60 : decode cX11_keep 60 = .ok (.iadd, 1) := by decide +kernel
theorem dX11_keep_61 : decode cX11_keep 61 = .ok (.aload_n 0, 1) := by decide +kernel
theorem dX11_keep_62 : decode cX11_keep 62 = .ok (.getfield 109, 3) := by decide +kernel
theorem dX11_keep_65 : decode cX11_keep 65 = .ok (.iastore, 1) := by decide +kernel
theorem dX11_keep_66 : decode cX11_keep 66 = .ok (.aload_n 0, 1) := by decide +kernel
theorem dX11_keep_67 : decode cX11_keep 67 = .ok (.getfield 109, 3) := by decide +kernel
theorem dX11_keep_70 : decode cX11_keep 70 = .ok (.ireturn, 1) := by decide +kernel
theorem dX11_again_0 : decode cX11_again 0 = .ok (.iload_n 1, 1) := by decide +kernel
theorem dX11_again_1 : decode cX11_again 1 = .ok (.i2l, 1) := by decide +kernel
theorem dX11_again_2 : decode cX11_again 2 = .ok (.lconst 0, 1) := by decide +kernel
theorem dX11_again_3 : decode cX11_again 3 = .ok (.lconst 1, 1) := by decide +kernel
theorem dX11_again_4 : decode cX11_again 4 = .ok (.invokestatic 62, 3) := by decide +kernel
theorem dX11_again_7 : decode cX11_again 7 = .ok (.ifCond .ne 5, 3) := by decide +kernel
theorem dX11_again_10 : decode cX11_again 10 = .ok (.iconst (-1), 1) := by decide +kernel
theorem dX11_again_11 : decode cX11_again 11 = .ok (.ireturn, 1) := by decide +kernel
theorem dX11_again_12 : decode cX11_again 12 = .ok (.aload_n 0, 1) := by decide +kernel
theorem dX11_again_13 : decode cX11_again 13 = .ok (.getfield 53, 3) := by decide +kernel
theorem dX11_again_16 : decode cX11_again 16 = .ok (.iload_n 1, 1) := by decide +kernel
theorem dX11_again_17 : decode cX11_again 17 = .ok (.baload, 1) := by decide +kernel
theorem dX11_again_18 : decode cX11_again 18 = .ok (.ifCond .ne 6, 3) := by decide +kernel
theorem dX11_again_21 : decode cX11_again 21 = .ok (.bipush (-3), 2) := by decide +kernel
theorem dX11_again_23 : decode cX11_again 23 = .ok (.ireturn, 1) := by decide +kernel
theorem dX11_again_24 : decode cX11_again 24 = .ok (.iconst 0, 1) := by decide +kernel
theorem dX11_again_25 : decode cX11_again 25 = .ok (.istore_n 2, 1) := by decide +kernel
theorem dX11_again_26 : decode cX11_again 26 = .ok (.iload_n 2, 1) := by decide +kernel
theorem dX11_again_27 : decode cX11_again 27 = .ok (.bipush 9, 2) := by decide +kernel
theorem dX11_again_29 : decode cX11_again 29 = .ok (.if_icmp .ge 26, 3) := by decide +kernel
theorem dX11_again_32 : decode cX11_again 32 = .ok (.aload_n 0, 1) := by decide +kernel
theorem dX11_again_33 : decode cX11_again 33 = .ok (.getfield 13, 3) := by decide +kernel
theorem dX11_again_36 : decode cX11_again 36 = .ok (.iload_n 2, 1) := by decide +kernel
theorem dX11_again_37 : decode cX11_again 37 = .ok (.aload_n 0, 1) := by decide +kernel
theorem dX11_again_38 : decode cX11_again 38 = .ok (.getfield 57, 3) := by decide +kernel
theorem dX11_again_41 : decode cX11_again 41 = .ok (.bipush 10, 2) := by decide +kernel
theorem dX11_again_43 : decode cX11_again 43 = .ok (.iload_n 1, 1) := by decide +kernel
theorem dX11_again_44 : decode cX11_again 44 = .ok (.imul, 1) := by decide +kernel
theorem dX11_again_45 : decode cX11_again 45 = .ok (.iload_n 2, 1) := by decide +kernel
theorem dX11_again_46 : decode cX11_again 46 = .ok (.iadd, 1) := by decide +kernel
theorem dX11_again_47 : decode cX11_again 47 = .ok (.iaload, 1) := by decide +kernel
theorem dX11_again_48 : decode cX11_again 48 = .ok (.iastore, 1) := by decide +kernel
theorem dX11_again_49 : decode cX11_again 49 = .ok (.iinc 2 1, 3) := by decide +kernel
theorem dX11_again_52 : decode cX11_again 52 = .ok (.goto (-26), 3) := by decide +kernel
theorem dX11_again_55 : decode cX11_again 55 = .ok (.aload_n 0, 1) := by decide +kernel
theorem dX11_again_56 : decode cX11_again 56 = .ok (.aload_n 0, 1) := by decide +kernel
theorem dX11_again_57 : decode cX11_again 57 = .ok (.getfield 57, 3) := by decide +kernel
theorem dX11_again_60 : decode cX11_again 60 = .ok (.bipush 10, 2) := by decide +kernel
theorem dX11_again_62 : decode cX11_again 62 = .ok (.iload_n 1, 1) := by decide +kernel
theorem dX11_again_63 : decode cX11_again 63 = .ok (.imul, 1) := by decide +kernel
theorem dX11_again_64 : decode cX11_again 64 = .ok (.bipush 9, 2) := by decide +kernel
theorem dX11_again_66 : decode cX11_again 66 = .ok (.iadd, 1) := by decide +kernel
theorem dX11_again_67 : decode cX11_again 67 = .ok (.iaload, 1) := by decide +kernel
theorem dX11_again_68 : decode cX11_again 68 = .ok (.putfield 109, 3) := by decide +kernel
theorem dX11_again_71 : decode cX11_again 71 = .ok (.aload_n 0, 1) := by decide +kernel
theorem dX11_again_72 : decode cX11_again 72 = .ok (.iconst 0, 1) := by decide +kernel
theorem dX11_again_73 : decode cX11_again 73 = .ok (.putfield 124, 3) := by decide +kernel
theorem dX11_again_76 : decode cX11_again 76 = .ok (.aload_n 0, 1) := by decide +kernel
theorem dX11_again_77 : decode cX11_again 77 = .ok (.getfield 109, 3) := by decide +kernel
theorem dX11_again_80 : decode cX11_again 80 = .ok (.ireturn, 1) := by decide +kernel
theorem dX11_count_0 : decode cX11_count 0 = .ok (.aload_n 0, 1) := by decide +kernel
theorem dX11_count_1 : decode cX11_count 1 = .ok (.invokevirtual 150, 3) := by decide +kernel
theorem dX11_count_4 : decode cX11_count 4 = .ok (.iconst 0, 1) := by decide +kernel
theorem dX11_count_5 : decode cX11_count 5 = .ok (.istore_n 2, 1) := by decide +kernel
theorem dX11_count_6 : decode cX11_count 6 = .ok (.aload_n 0, 1) := by decide +kernel
theorem dX11_count_7 : decode cX11_count 7 = .ok (.getfield 121, 3) := by decide +kernel
theorem dX11_count_10 : decode cX11_count 10 = .ok (.istore_n 3, 1) := by decide +kernel
theorem dX11_count_11 : decode cX11_count 11 = .ok (.iconst 0, 1) := by decide +kernel
theorem dX11_count_12 : decode cX11_count 12 = .ok (.istore 4, 2) := by decide +kernel
theorem dX11_count_14 : decode cX11_count 14 = .ok (.iload 4, 2) := by decide +kernel
theorem dX11_count_16 : decode cX11_count 16 = .ok (.aload_n 0, 1) := by decide +kernel
theorem dX11_count_17 : decode cX11_count 17 = .ok (.getfield 109, 3) := by decide +kernel
theorem dX11_count_20 : decode cX11_count 20 = .ok (.if_icmp .ge 38, 3) := by decide +kernel
theorem dX11_count_23 : decode cX11_count 23 = .ok (.iload_n 2, 1) := by decide +kernel
theorem dX11_count_24 : decode cX11_count 24 = .ok (.aload_n 0, 1) := by decide +kernel
theorem dX11_count_25 : decode cX11_count 25 = .ok (.iload 4, 2) := by decide +kernel
theorem dX11_count_27 : decode cX11_count 27 = .ok (.invokevirtual 137, 3) := by decide +kernel
theorem dX11_count_30 : decode cX11_count 30 = .ok (.ifCond .eq 10, 3) := by decide +kernel
theorem dX11_count_33 : decode cX11_count 33 = .ok (.iconst 1, 1) := by decide +kernel
theorem dX11_count_34 : decode cX11_count 34 = .ok (.iload 4, 2) := by decide +kernel
theorem dX11_count_36 : decode cX11_count 36 = .ok (.ishl, 1) := by decide +kernel
theorem dX11_count_37 : decode cX11_count 37 = .ok (.goto 4, 3) := by decide +kernel
theorem dX11_count_40 : decode cX11_count 40 = .ok (.iconst 0, 1) := by decide +kernel
theorem dX11_count_41 : decode cX11_count 41 = .ok (.ior, 1) := by decide +kernel
theorem dX11_count_42 : decode cX11_count 42 = .ok (.istore_n 2, 1) := by decide +kernel
theorem dX11_count_43 : decode cX11_count 43 = .ok (.iload_n 3, 1) := by decide +kernel
theorem dX11_count_44 : decode cX11_count 44 = .ok (.aload_n 0, 1) := by decide +kernel
theorem dX11_count_45 : decode cX11_count 45 = .ok (.iload 4, 2) := by decide +kernel
theorem dX11_count_47 : decode cX11_count 47 = .ok (.invokevirtual 141, 3) := by decide +kernel
theorem dX11_count_50 : decode cX11_count 50 = .ok (.isub, 1) := by decide +kernel
theorem dX11_count_51 : decode cX11_count 51 = .ok (.istore_n 3, 1) := by decide +kernel
theorem dX11_count_52 : decode cX11_count 52 = .ok (.iinc 4 1, 3) := by decide +kernel
theorem dX11_count_55 : decode cX11_count 55 = .ok (.goto (-41), 3) := by decide +kernel
theorem dX11_count_58 : decode cX11_count 58 = .ok (.iload_n 1, 1) := by decide +kernel
theorem dX11_count_59 : decode cX11_count 59 = .ok (.tableswitch 97 0 9 #[53, 58, 63, 65, 70, 75, 80, 85, 90, 95], 53) := by decide +kernel
theorem dX11_count_112 : decode cX11_count 112 = .ok (.aload_n 0, 1) := by decide +kernel
theorem dX11_count_113 : decode cX11_count 113 = .ok (.getfield 66, 3) := by decide +kernel
theorem dX11_count_116 : decode cX11_count 116 = .ok (.ireturn, 1) := by decide +kernel
theorem dX11_count_117 : decode cX11_count 117 = .ok (.aload_n 0, 1) := by decide +kernel
theorem dX11_count_118 : decode cX11_count 118 = .ok (.getfield 109, 3) := by decide +kernel
theorem dX11_count_121 : decode cX11_count 121 = .ok (.ireturn, 1) := by decide +kernel
theorem dX11_count_122 : decode cX11_count 122 = .ok (.iload_n 2, 1) := by decide +kernel
theorem dX11_count_123 : decode cX11_count 123 = .ok (.ireturn, 1) := by decide +kernel
theorem dX11_count_124 : decode cX11_count 124 = .ok (.aload_n 0, 1) := by decide +kernel
theorem dX11_count_125 : decode cX11_count 125 = .ok (.getfield 112, 3) := by decide +kernel
theorem dX11_count_128 : decode cX11_count 128 = .ok (.ireturn, 1) := by decide +kernel
theorem dX11_count_129 : decode cX11_count 129 = .ok (.aload_n 0, 1) := by decide +kernel
theorem dX11_count_130 : decode cX11_count 130 = .ok (.getfield 124, 3) := by decide +kernel
theorem dX11_count_133 : decode cX11_count 133 = .ok (.ireturn, 1) := by decide +kernel
theorem dX11_count_134 : decode cX11_count 134 = .ok (.aload_n 0, 1) := by decide +kernel
theorem dX11_count_135 : decode cX11_count 135 = .ok (.getfield 202, 3) := by decide +kernel
theorem dX11_count_138 : decode cX11_count 138 = .ok (.ireturn, 1) := by decide +kernel
theorem dX11_count_139 : decode cX11_count 139 = .ok (.aload_n 0, 1) := by decide +kernel
theorem dX11_count_140 : decode cX11_count 140 = .ok (.getfield 121, 3) := by decide +kernel
theorem dX11_count_143 : decode cX11_count 143 = .ok (.ireturn, 1) := by decide +kernel
theorem dX11_count_144 : decode cX11_count 144 = .ok (.aload_n 0, 1) := by decide +kernel
theorem dX11_count_145 : decode cX11_count 145 = .ok (.getfield 115, 3) := by decide +kernel
theorem dX11_count_148 : decode cX11_count 148 = .ok (.ireturn, 1) := by decide +kernel
theorem dX11_count_149 : decode cX11_count 149 = .ok (.aload_n 0, 1) := by decide +kernel
theorem dX11_count_150 : decode cX11_count 150 = .ok (.getfield 118, 3) := by decide +kernel
theorem dX11_count_153 : decode cX11_count 153 = .ok (.ireturn, 1) := by decide +kernel
theorem dX11_count_154 : decode cX11_count 154 = .ok (.iload_n 3, 1) := by decide +kernel
theorem dX11_count_155 : decode cX11_count 155 = .ok (.ireturn, 1) := by decide +kernel
theorem dX11_count_156 : decode cX11_count 156 = .ok (.bipush (-2), 2) := by decide +kernel
theorem dX11_count_158 : decode cX11_count 158 = .ok (.ireturn, 1) := by decide +kernel
theorem dJ6_bitCount_0f7a4_0 : decode cJ6_bitCount_0f7a4 0 = .ok (.iload_n 0, 1) := by decide +kernel
theorem dJ6_bitCount_0f7a4_1 : decode cJ6_bitCount_0f7a4 1 = .ok (.iload_n 0, 1) := by decide +kernel
theorem dJ6_bitCount_0f7a4_2 : decode cJ6_bitCount_0f7a4 2 = .ok (.iconst 1, 1) := by decide +kernel
theorem dJ6_bitCount_0f7a4_3 : decode cJ6_bitCount_0f7a4 3 = .ok (.iushr, 1) := by decide +kernel
theorem dJ6_bitCount_0f7a4_4 : decode cJ6_bitCount_0f7a4 4 = .ok (.ldc_w 265, 3) := by decide +kernel
theorem dJ6_bitCount_0f7a4_7 : decode cJ6_bitCount_0f7a4 7 = .ok (.iand, 1) := by decide +kernel
theorem dJ6_bitCount_0f7a4_8 : decode cJ6_bitCount_0f7a4 8 = .ok (.isub, 1) := by decide +kernel
theorem dJ6_bitCount_0f7a4_9 : decode cJ6_bitCount_0f7a4 9 = .ok (.istore_n 0, 1) := by decide +kernel
theorem dJ6_bitCount_0f7a4_10 : decode cJ6_bitCount_0f7a4 10 = .ok (.iload_n 0, 1) := by decide +kernel
theorem dJ6_bitCount_0f7a4_11 : decode cJ6_bitCount_0f7a4 11 = .ok (.ldc_w 266, 3) := by decide +kernel
theorem dJ6_bitCount_0f7a4_14 : decode cJ6_bitCount_0f7a4 14 = .ok (.iand, 1) := by decide +kernel
theorem dJ6_bitCount_0f7a4_15 : decode cJ6_bitCount_0f7a4 15 = .ok (.iload_n 0, 1) := by decide +kernel
theorem dJ6_bitCount_0f7a4_16 : decode cJ6_bitCount_0f7a4 16 = .ok (.iconst 2, 1) := by decide +kernel
theorem dJ6_bitCount_0f7a4_17 : decode cJ6_bitCount_0f7a4 17 = .ok (.iushr, 1) := by decide +kernel
theorem dJ6_bitCount_0f7a4_18 : decode cJ6_bitCount_0f7a4 18 = .ok (.ldc_w 266, 3) := by decide +kernel
theorem dJ6_bitCount_0f7a4_21 : decode cJ6_bitCount_0f7a4 21 = .ok (.iand, 1) := by decide +kernel
theorem dJ6_bitCount_0f7a4_22 : decode cJ6_bitCount_0f7a4 22 = .ok (.iadd, 1) := by decide +kernel
theorem dJ6_bitCount_0f7a4_23 : decode cJ6_bitCount_0f7a4 23 = .ok (.istore_n 0, 1) := by decide +kernel
theorem dJ6_bitCount_0f7a4_24 : decode cJ6_bitCount_0f7a4 24 = .ok (.iload_n 0, 1) := by decide +kernel
theorem dJ6_bitCount_0f7a4_25 : decode cJ6_bitCount_0f7a4 25 = .ok (.iload_n 0, 1) := by decide +kernel
theorem dJ6_bitCount_0f7a4_26 : decode cJ6_bitCount_0f7a4 26 = .ok (.iconst 4, 1) := by decide +kernel
theorem dJ6_bitCount_0f7a4_27 : decode cJ6_bitCount_0f7a4 27 = .ok (.iushr, 1) := by decide +kernel
theorem dJ6_bitCount_0f7a4_28 : decode cJ6_bitCount_0f7a4 28 = .ok (.iadd, 1) := by decide +kernel
theorem dJ6_bitCount_0f7a4_29 : decode cJ6_bitCount_0f7a4 29 = .ok (.ldc_w 267, 3) := by decide +kernel
theorem dJ6_bitCount_0f7a4_32 : decode cJ6_bitCount_0f7a4 32 = .ok (.iand, 1) := by decide +kernel
theorem dJ6_bitCount_0f7a4_33 : decode cJ6_bitCount_0f7a4 33 = .ok (.istore_n 0, 1) := by decide +kernel
theorem dJ6_bitCount_0f7a4_34 : decode cJ6_bitCount_0f7a4 34 = .ok (.iload_n 0, 1) := by decide +kernel
theorem dJ6_bitCount_0f7a4_35 : decode cJ6_bitCount_0f7a4 35 = .ok (.iload_n 0, 1) := by decide +kernel
theorem dJ6_bitCount_0f7a4_36 : decode cJ6_bitCount_0f7a4 36 = .ok (.bipush 8, 2) := by decide +kernel
theorem dJ6_bitCount_0f7a4_38 : decode cJ6_bitCount_0f7a4 38 = .ok (.iushr, 1) := by decide +kernel
theorem dJ6_bitCount_0f7a4_39 : decode cJ6_bitCount_0f7a4 39 = .ok (.iadd, 1) := by decide +kernel
theorem dJ6_bitCount_0f7a4_40 : decode cJ6_bitCount_0f7a4 40 = .ok (.istore_n 0, 1) := by decide +kernel
theorem dJ6_bitCount_0f7a4_41 : decode cJ6_bitCount_0f7a4 41 = .ok (.iload_n 0, 1) := by decide +kernel
theorem dJ6_bitCount_0f7a4_42 : decode cJ6_bitCount_0f7a4 42 = .ok (.iload_n 0, 1) := by decide +kernel
theorem dJ6_bitCount_0f7a4_43 : decode cJ6_bitCount_0f7a4 43 = .ok (.bipush 16, 2) := by decide +kernel
theorem dJ6_bitCount_0f7a4_45 : decode cJ6_bitCount_0f7a4 45 = .ok (.iushr, 1) := by decide +kernel
theorem dJ6_bitCount_0f7a4_46 : decode cJ6_bitCount_0f7a4 46 = .ok (.iadd, 1) := by decide +kernel
theorem dJ6_bitCount_0f7a4_47 : decode cJ6_bitCount_0f7a4 47 = .ok (.istore_n 0, 1) := by decide +kernel
theorem dJ6_bitCount_0f7a4_48 : decode cJ6_bitCount_0f7a4 48 = .ok (.iload_n 0, 1) := by decide +kernel
theorem dJ6_bitCount_0f7a4_49 : decode cJ6_bitCount_0f7a4 49 = .ok (.bipush 63, 2) := by decide +kernel
theorem dJ6_bitCount_0f7a4_51 : decode cJ6_bitCount_0f7a4 51 = .ok (.iand, 1) := by decide +kernel
theorem dJ6_bitCount_0f7a4_52 : decode cJ6_bitCount_0f7a4 52 = .ok (.ireturn, 1) := by decide +kernel
theorem dJ9_max_7cf53_0 : decode cJ9_max_7cf53 0 = .ok (.iload_n 0, 1) := by decide +kernel
theorem dJ9_max_7cf53_1 : decode cJ9_max_7cf53 1 = .ok (.iload_n 1, 1) := by decide +kernel
theorem dJ9_max_7cf53_2 : decode cJ9_max_7cf53 2 = .ok (.if_icmp .lt 7, 3) := by decide +kernel
theorem dJ9_max_7cf53_5 : decode cJ9_max_7cf53 5 = .ok (.iload_n 0, 1) := by decide +kernel
theorem dJ9_max_7cf53_6 : decode cJ9_max_7cf53 6 = .ok (.goto 4, 3) := by decide +kernel
theorem dJ9_max_7cf53_9 : decode cJ9_max_7cf53 9 = .ok (.iload_n 1, 1) := by decide +kernel
theorem dJ9_max_7cf53_10 : decode cJ9_max_7cf53 10 = .ok (.ireturn, 1) := by decide +kernel
theorem dJ9_min_7cf53_0 : decode cJ9_min_7cf53 0 = .ok (.iload_n 0, 1) := by decide +kernel
theorem dJ9_min_7cf53_1 : decode cJ9_min_7cf53 1 = .ok (.iload_n 1, 1) := by decide +kernel
theorem dJ9_min_7cf53_2 : decode cJ9_min_7cf53 2 = .ok (.if_icmp .gt 7, 3) := by decide +kernel
theorem dJ9_min_7cf53_5 : decode cJ9_min_7cf53 5 = .ok (.iload_n 0, 1) := by decide +kernel
theorem dJ9_min_7cf53_6 : decode cJ9_min_7cf53 6 = .ok (.goto 4, 3) := by decide +kernel
theorem dJ9_min_7cf53_9 : decode cJ9_min_7cf53 9 = .ok (.iload_n 1, 1) := by decide +kernel
theorem dJ9_min_7cf53_10 : decode cJ9_min_7cf53 10 = .ok (.ireturn, 1) := by decide +kernel
theorem dJ7_fill_d0a16_0 : decode cJ7_fill_d0a16 0 = .ok (.iconst 0, 1) := by decide +kernel
theorem dJ7_fill_d0a16_1 : decode cJ7_fill_d0a16 1 = .ok (.istore_n 3, 1) := by decide +kernel
theorem dJ7_fill_d0a16_2 : decode cJ7_fill_d0a16 2 = .ok (.aload_n 0, 1) := by decide +kernel
theorem dJ7_fill_d0a16_3 : decode cJ7_fill_d0a16 3 = .ok (.arraylength, 1) := by decide +kernel
theorem dJ7_fill_d0a16_4 : decode cJ7_fill_d0a16 4 = .ok (.istore 4, 2) := by decide +kernel
theorem dJ7_fill_d0a16_6 : decode cJ7_fill_d0a16 6 = .ok (.iload_n 3, 1) := by decide +kernel
theorem dJ7_fill_d0a16_7 : decode cJ7_fill_d0a16 7 = .ok (.iload 4, 2) := by decide +kernel
theorem dJ7_fill_d0a16_9 : decode cJ7_fill_d0a16 9 = .ok (.if_icmp .ge 13, 3) := by decide +kernel
theorem dJ7_fill_d0a16_12 : decode cJ7_fill_d0a16 12 = .ok (.aload_n 0, 1) := by decide +kernel
theorem dJ7_fill_d0a16_13 : decode cJ7_fill_d0a16 13 = .ok (.iload_n 3, 1) := by decide +kernel
theorem dJ7_fill_d0a16_14 : decode cJ7_fill_d0a16 14 = .ok (.lload_n 1, 1) := by decide +kernel
theorem dJ7_fill_d0a16_15 : decode cJ7_fill_d0a16 15 = .ok (.lastore, 1) := by decide +kernel
theorem dJ7_fill_d0a16_16 : decode cJ7_fill_d0a16 16 = .ok (.iinc 3 1, 3) := by decide +kernel
theorem dJ7_fill_d0a16_19 : decode cJ7_fill_d0a16 19 = .ok (.goto (-13), 3) := by decide +kernel
theorem dJ7_fill_d0a16_22 : decode cJ7_fill_d0a16 22 = .ok (.return_, 1) := by decide +kernel
theorem dJ7_fill_53178_0 : decode cJ7_fill_53178 0 = .ok (.iconst 0, 1) := by decide +kernel
theorem dJ7_fill_53178_1 : decode cJ7_fill_53178 1 = .ok (.istore_n 2, 1) := by decide +kernel
theorem dJ7_fill_53178_2 : decode cJ7_fill_53178 2 = .ok (.aload_n 0, 1) := by decide +kernel
theorem dJ7_fill_53178_3 : decode cJ7_fill_53178 3 = .ok (.arraylength, 1) := by decide +kernel
theorem dJ7_fill_53178_4 : decode cJ7_fill_53178 4 = .ok (.istore_n 3, 1) := by decide +kernel
theorem dJ7_fill_53178_5 : decode cJ7_fill_53178 5 = .ok (.iload_n 2, 1) := by decide +kernel
theorem dJ7_fill_53178_6 : decode cJ7_fill_53178 6 = .ok (.iload_n 3, 1) := by decide +kernel
theorem dJ7_fill_53178_7 : decode cJ7_fill_53178 7 = .ok (.if_icmp .ge 13, 3) := by decide +kernel
theorem dJ7_fill_53178_10 : decode cJ7_fill_53178 10 = .ok (.aload_n 0, 1) := by decide +kernel
theorem dJ7_fill_53178_11 : decode cJ7_fill_53178 11 = .ok (.iload_n 2, 1) := by decide +kernel
theorem dJ7_fill_53178_12 : decode cJ7_fill_53178 12 = .ok (.iload_n 1, 1) := by decide +kernel
theorem dJ7_fill_53178_13 : decode cJ7_fill_53178 13 = .ok (.iastore, 1) := by decide +kernel
theorem dJ7_fill_53178_14 : decode cJ7_fill_53178 14 = .ok (.iinc 2 1, 3) := by decide +kernel
theorem dJ7_fill_53178_17 : decode cJ7_fill_53178 17 = .ok (.goto (-12), 3) := by decide +kernel
theorem dJ7_fill_53178_20 : decode cJ7_fill_53178 20 = .ok (.return_, 1) := by decide +kernel
theorem dL_law_0 : decode cL_law 0 = .ok (.new 7, 3) := by decide +kernel
theorem dL_law_3 : decode cL_law 3 = .ok (.dup, 1) := by decide +kernel
theorem dL_law_4 : decode cL_law 4 = .ok (.invokespecial 9, 3) := by decide +kernel
theorem dL_law_7 : decode cL_law 7 = .ok (.astore_n 1, 1) := by decide +kernel
theorem dL_law_8 : decode cL_law 8 = .ok (.new 10, 3) := by decide +kernel
theorem dL_law_11 : decode cL_law 11 = .ok (.dup, 1) := by decide +kernel
theorem dL_law_12 : decode cL_law 12 = .ok (.invokespecial 12, 3) := by decide +kernel
theorem dL_law_15 : decode cL_law 15 = .ok (.astore_n 2, 1) := by decide +kernel
theorem dL_law_16 : decode cL_law 16 = .ok (.iconst 0, 1) := by decide +kernel
theorem dL_law_17 : decode cL_law 17 = .ok (.istore_n 3, 1) := by decide +kernel
theorem dL_law_18 : decode cL_law 18 = .ok (.iload_n 3, 1) := by decide +kernel
theorem dL_law_19 : decode cL_law 19 = .ok (.aload_n 0, 1) := by decide +kernel
theorem dL_law_20 : decode cL_law 20 = .ok (.arraylength, 1) := by decide +kernel
theorem dL_law_21 : decode cL_law 21 = .ok (.iconst 4, 1) := by decide +kernel
theorem dL_law_22 : decode cL_law 22 = .ok (.isub, 1) := by decide +kernel
theorem dL_law_23 : decode cL_law 23 = .ok (.if_icmp .gt 936, 3) := by decide +kernel
theorem dL_law_26 : decode cL_law 26 = .ok (.aload_n 0, 1) := by decide +kernel
theorem dL_law_27 : decode cL_law 27 = .ok (.iload_n 3, 1) := by decide +kernel
theorem dL_law_28 : decode cL_law 28 = .ok (.iaload, 1) := by decide +kernel
theorem dL_law_29 : decode cL_law 29 = .ok (.bipush 31, 2) := by decide +kernel
theorem dL_law_31 : decode cL_law 31 = .ok (.iand, 1) := by decide +kernel
theorem dL_law_32 : decode cL_law 32 = .ok (.tableswitch 921 0 28 #[132, 195, 208, 221, 234, 267, 290, 323, 346, 369, 382, 395, 408, 431, 454, 477, 490, 523, 573, 623, 683, 706, 739, 752, 765, 819, 852, 875, 898], 132) := by decide +kernel
theorem dL_law_164 : decode cL_law 164 = .ok (.aload_n 1, 1) := by decide +kernel
theorem dL_law_165 : decode cL_law 165 = .ok (.aload_n 0, 1) := by decide +kernel
theorem dL_law_166 : decode cL_law 166 = .ok (.iload_n 3, 1) := by decide +kernel
theorem dL_law_167 : decode cL_law 167 = .ok (.iconst 1, 1) := by decide +kernel
theorem dL_law_168 : decode cL_law 168 = .ok (.iadd, 1) := by decide +kernel
theorem dL_law_169 : decode cL_law 169 = .ok (.iaload, 1) := by decide +kernel
theorem dL_law_170 : decode cL_law 170 = .ok (.aload_n 0, 1) := by decide +kernel
theorem dL_law_171 : decode cL_law 171 = .ok (.iload_n 3, 1) := by decide +kernel
theorem dL_law_172 : decode cL_law 172 = .ok (.iconst 2, 1) := by decide +kernel
theorem dL_law_173 : decode cL_law 173 = .ok (.iadd, 1) := by decide +kernel
theorem dL_law_174 : decode cL_law 174 = .ok (.iaload, 1) := by decide +kernel
theorem dL_law_175 : decode cL_law 175 = .ok (.i2l, 1) := by decide +kernel
theorem dL_law_176 : decode cL_law 176 = .ok (.bipush 32, 2) := by decide +kernel
theorem dL_law_178 : decode cL_law 178 = .ok (.lshl, 1) := by decide +kernel
theorem dL_law_179 : decode cL_law 179 = .ok (.aload_n 0, 1) := by decide +kernel
theorem dL_law_180 : decode cL_law 180 = .ok (.iload_n 3, 1) := by decide +kernel
theorem dL_law_181 : decode cL_law 181 = .ok (.iconst 3, 1) := by decide +kernel
theorem dL_law_182 : decode cL_law 182 = .ok (.iadd, 1) := by decide +kernel
theorem dL_law_183 : decode cL_law 183 = .ok (.iaload, 1) := by decide +kernel
theorem dL_law_184 : decode cL_law 184 = .ok (.i2l, 1) := by decide +kernel
theorem dL_law_185 : decode cL_law 185 = .ok (.ldc2_w 13, 3) := by decide +kernel
theorem dL_law_188 : decode cL_law 188 = .ok (.land, 1) := by decide +kernel
theorem dL_law_189 : decode cL_law 189 = .ok (.lor, 1) := by decide +kernel
theorem dL_law_190 : decode cL_law 190 = .ok (.invokevirtual 15, 3) := by decide +kernel
theorem dL_law_193 : decode cL_law 193 = .ok (.aload_n 2, 1) := by decide +kernel
theorem dL_law_194 : decode cL_law 194 = .ok (.aload_n 0, 1) := by decide +kernel
theorem dL_law_195 : decode cL_law 195 = .ok (.iload_n 3, 1) := by decide +kernel
theorem dL_law_196 : decode cL_law 196 = .ok (.iconst 1, 1) := by decide +kernel
theorem dL_law_197 : decode cL_law 197 = .ok (.iadd, 1) := by decide +kernel
theorem dL_law_198 : decode cL_law 198 = .ok (.iaload, 1) := by decide +kernel
theorem dL_law_199 : decode cL_law 199 = .ok (.aload_n 0, 1) := by decide +kernel
theorem dL_law_200 : decode cL_law 200 = .ok (.iload_n 3, 1) := by decide +kernel
theorem dL_law_201 : decode cL_law 201 = .ok (.iconst 2, 1) := by decide +kernel
theorem dL_law_202 : decode cL_law 202 = .ok (.iadd, 1) := by decide +kernel
theorem dL_law_203 : decode cL_law 203 = .ok (.iaload, 1) := by decide +kernel
theorem dL_law_204 : decode cL_law 204 = .ok (.i2l, 1) := by decide +kernel
theorem dL_law_205 : decode cL_law 205 = .ok (.bipush 32, 2) := by decide +kernel
theorem dL_law_207 : decode cL_law 207 = .ok (.lshl, 1) := by decide +kernel
theorem dL_law_208 : decode cL_law 208 = .ok (.aload_n 0, 1) := by decide +kernel
theorem dL_law_209 : decode cL_law 209 = .ok (.iload_n 3, 1) := by decide +kernel
theorem dL_law_210 : decode cL_law 210 = .ok (.iconst 3, 1) := by decide +kernel
theorem dL_law_211 : decode cL_law 211 = .ok (.iadd, 1) := by decide +kernel
theorem dL_law_212 : decode cL_law 212 = .ok (.iaload, 1) := by decide +kernel
theorem dL_law_213 : decode cL_law 213 = .ok (.i2l, 1) := by decide +kernel
theorem dL_law_214 : decode cL_law 214 = .ok (.ldc2_w 13, 3) := by decide +kernel
theorem dL_law_217 : decode cL_law 217 = .ok (.land, 1) := by decide +kernel
theorem dL_law_218 : decode cL_law 218 = .ok (.lor, 1) := by decide +kernel
theorem dL_law_219 : decode cL_law 219 = .ok (.invokevirtual 19, 3) := by decide +kernel
theorem dL_law_222 : decode cL_law 222 = .ok (.if_icmp .eq 731, 3) := by decide +kernel
theorem dL_law_225 : decode cL_law 225 = .ok (.iconst 0, 1) := by decide +kernel
theorem dL_law_226 : decode cL_law 226 = .ok (.ireturn, 1) := by decide +kernel
theorem dL_law_227 : decode cL_law 227 = .ok (.aload_n 1, 1) := by decide +kernel
theorem dL_law_228 : decode cL_law 228 = .ok (.invokevirtual 20, 3) := by decide +kernel
theorem dL_law_231 : decode cL_law 231 = .ok (.aload_n 2, 1) := by decide +kernel
theorem dL_law_232 : decode cL_law 232 = .ok (.invokevirtual 24, 3) := by decide +kernel
theorem dL_law_235 : decode cL_law 235 = .ok (.if_icmp .eq 718, 3) := by decide +kernel
theorem dL_law_238 : decode cL_law 238 = .ok (.iconst 0, 1) := by decide +kernel
theorem dL_law_239 : decode cL_law 239 = .ok (.ireturn, 1) := by decide +kernel
theorem dL_law_240 : decode cL_law 240 = .ok (.aload_n 1, 1) := by decide +kernel
theorem dL_law_241 : decode cL_law 241 = .ok (.invokevirtual 25, 3) := by decide +kernel
theorem dL_law_244 : decode cL_law 244 = .ok (.aload_n 2, 1) := by decide +kernel
theorem dL_law_245 : decode cL_law 245 = .ok (.invokevirtual 28, 3) := by decide +kernel
theorem dL_law_248 : decode cL_law 248 = .ok (.if_icmp .eq 705, 3) := by decide +kernel
theorem dL_law_251 : decode cL_law 251 = .ok (.iconst 0, 1) := by decide +kernel
theorem dL_law_252 : decode cL_law 252 = .ok (.ireturn, 1) := by decide +kernel
theorem dL_law_253 : decode cL_law 253 = .ok (.aload_n 1, 1) := by decide +kernel
theorem dL_law_254 : decode cL_law 254 = .ok (.invokevirtual 29, 3) := by decide +kernel
theorem dL_law_257 : decode cL_law 257 = .ok (.aload_n 2, 1) := by decide +kernel
theorem dL_law_258 : decode cL_law 258 = .ok (.invokevirtual 32, 3) := by decide +kernel
theorem dL_law_261 : decode cL_law 261 = .ok (.if_icmp .eq 692, 3) := by decide +kernel
theorem dL_law_264 : decode cL_law 264 = .ok (.iconst 0, 1) := by decide +kernel
theorem dL_law_265 : decode cL_law 265 = .ok (.ireturn, 1) := by decide +kernel
theorem dL_law_266 : decode cL_law 266 = .ok (.aload_n 1, 1) := by decide +kernel
theorem dL_law_267 : decode cL_law 267 = .ok (.aload_n 0, 1) := by decide +kernel
theorem dL_law_268 : decode cL_law 268 = .ok (.iload_n 3, 1) := by decide +kernel
theorem dL_law_269 : decode cL_law 269 = .ok (.iconst 1, 1) := by decide +kernel
theorem dL_law_270 : decode cL_law 270 = .ok (.iadd, 1) := by decide +kernel
theorem dL_law_271 : decode cL_law 271 = .ok (.iaload, 1) := by decide +kernel
theorem dL_law_272 : decode cL_law 272 = .ok (.aload_n 0, 1) := by decide +kernel
theorem dL_law_273 : decode cL_law 273 = .ok (.iload_n 3, 1) := by decide +kernel
theorem dL_law_274 : decode cL_law 274 = .ok (.iconst 2, 1) := by decide +kernel
theorem dL_law_275 : decode cL_law 275 = .ok (.iadd, 1) := by decide +kernel
theorem dL_law_276 : decode cL_law 276 = .ok (.iaload, 1) := by decide +kernel
theorem dL_law_277 : decode cL_law 277 = .ok (.invokevirtual 33, 3) := by decide +kernel
theorem dL_law_280 : decode cL_law 280 = .ok (.aload_n 2, 1) := by decide +kernel
theorem dL_law_281 : decode cL_law 281 = .ok (.aload_n 0, 1) := by decide +kernel
theorem dL_law_282 : decode cL_law 282 = .ok (.iload_n 3, 1) := by decide +kernel
theorem dL_law_283 : decode cL_law 283 = .ok (.iconst 1, 1) := by decide +kernel
theorem dL_law_284 : decode cL_law 284 = .ok (.iadd, 1) := by decide +kernel
theorem dL_law_285 : decode cL_law 285 = .ok (.iaload, 1) := by decide +kernel
theorem dL_law_286 : decode cL_law 286 = .ok (.aload_n 0, 1) := by decide +kernel
theorem dL_law_287 : decode cL_law 287 = .ok (.iload_n 3, 1) := by decide +kernel
theorem dL_law_288 : decode cL_law 288 = .ok (.iconst 2, 1) := by decide +kernel
theorem dL_law_289 : decode cL_law 289 = .ok (.iadd, 1) := by decide +kernel
theorem dL_law_290 : decode cL_law 290 = .ok (.iaload, 1) := by decide +kernel
theorem dL_law_291 : decode cL_law 291 = .ok (.invokevirtual 37, 3) := by decide +kernel
theorem dL_law_294 : decode cL_law 294 = .ok (.if_icmp .eq 659, 3) := by decide +kernel
theorem dL_law_297 : decode cL_law 297 = .ok (.iconst 0, 1) := by decide +kernel
theorem dL_law_298 : decode cL_law 298 = .ok (.ireturn, 1) := by decide +kernel
theorem dL_law_299 : decode cL_law 299 = .ok (.aload_n 1, 1) := by decide +kernel
theorem dL_law_300 : decode cL_law 300 = .ok (.aload_n 0, 1) := by decide +kernel
theorem dL_law_301 : decode cL_law 301 = .ok (.iload_n 3, 1) := by decide +kernel
theorem dL_law_302 : decode cL_law 302 = .ok (.iconst 1, 1) := by decide +kernel
theorem dL_law_303 : decode cL_law 303 = .ok (.iadd, 1) := by decide +kernel
theorem dL_law_304 : decode cL_law 304 = .ok (.iaload, 1) := by decide +kernel
theorem dL_law_305 : decode cL_law 305 = .ok (.invokevirtual 38, 3) := by decide +kernel
theorem dL_law_308 : decode cL_law 308 = .ok (.aload_n 2, 1) := by decide +kernel
theorem dL_law_309 : decode cL_law 309 = .ok (.aload_n 0, 1) := by decide +kernel
theorem dL_law_310 : decode cL_law 310 = .ok (.iload_n 3, 1) := by decide +kernel
theorem dL_law_311 : decode cL_law 311 = .ok (.iconst 1, 1) := by decide +kernel
theorem dL_law_312 : decode cL_law 312 = .ok (.iadd, 1) := by decide +kernel
theorem dL_law_313 : decode cL_law 313 = .ok (.iaload, 1) := by decide +kernel
theorem dL_law_314 : decode cL_law 314 = .ok (.invokevirtual 42, 3) := by decide +kernel
theorem dL_law_317 : decode cL_law 317 = .ok (.if_icmp .eq 636, 3) := by decide +kernel
theorem dL_law_320 : decode cL_law 320 = .ok (.iconst 0, 1) := by decide +kernel
theorem dL_law_321 : decode cL_law 321 = .ok (.ireturn, 1) := by decide +kernel
theorem dL_law_322 : decode cL_law 322 = .ok (.aload_n 1, 1) := by decide +kernel
theorem dL_law_323 : decode cL_law 323 = .ok (.aload_n 0, 1) := by decide +kernel
theorem dL_law_324 : decode cL_law 324 = .ok (.iload_n 3, 1) := by decide +kernel
theorem dL_law_325 : decode cL_law 325 = .ok (.iconst 1, 1) := by decide +kernel
theorem dL_law_326 : decode cL_law 326 = .ok (.iadd, 1) := by decide +kernel
theorem dL_law_327 : decode cL_law 327 = .ok (.iaload, 1) := by decide +kernel
theorem dL_law_328 : decode cL_law 328 = .ok (.aload_n 0, 1) := by decide +kernel
theorem dL_law_329 : decode cL_law 329 = .ok (.iload_n 3, 1) := by decide +kernel
theorem dL_law_330 : decode cL_law 330 = .ok (.iconst 2, 1) := by decide +kernel
theorem dL_law_331 : decode cL_law 331 = .ok (.iadd, 1) := by decide +kernel
theorem dL_law_332 : decode cL_law 332 = .ok (.iaload, 1) := by decide +kernel
theorem dL_law_333 : decode cL_law 333 = .ok (.invokevirtual 43, 3) := by decide +kernel
theorem dL_law_336 : decode cL_law 336 = .ok (.aload_n 2, 1) := by decide +kernel
theorem dL_law_337 : decode cL_law 337 = .ok (.aload_n 0, 1) := by decide +kernel
theorem dL_law_338 : decode cL_law 338 = .ok (.iload_n 3, 1) := by decide +kernel
theorem dL_law_339 : decode cL_law 339 = .ok (.iconst 1, 1) := by decide +kernel
theorem dL_law_340 : decode cL_law 340 = .ok (.iadd, 1) := by decide +kernel
theorem dL_law_341 : decode cL_law 341 = .ok (.iaload, 1) := by decide +kernel
theorem dL_law_342 : decode cL_law 342 = .ok (.aload_n 0, 1) := by decide +kernel
theorem dL_law_343 : decode cL_law 343 = .ok (.iload_n 3, 1) := by decide +kernel
theorem dL_law_344 : decode cL_law 344 = .ok (.iconst 2, 1) := by decide +kernel
theorem dL_law_345 : decode cL_law 345 = .ok (.iadd, 1) := by decide +kernel
theorem dL_law_346 : decode cL_law 346 = .ok (.iaload, 1) := by decide +kernel
theorem dL_law_347 : decode cL_law 347 = .ok (.invokevirtual 46, 3) := by decide +kernel
theorem dL_law_350 : decode cL_law 350 = .ok (.if_icmp .eq 603, 3) := by decide +kernel
theorem dL_law_353 : decode cL_law 353 = .ok (.iconst 0, 1) := by decide +kernel
theorem dL_law_354 : decode cL_law 354 = .ok (.ireturn, 1) := by decide +kernel
theorem dL_law_355 : decode cL_law 355 = .ok (.aload_n 1, 1) := by decide +kernel
theorem dL_law_356 : decode cL_law 356 = .ok (.aload_n 0, 1) := by decide +kernel
theorem dL_law_357 : decode cL_law 357 = .ok (.iload_n 3, 1) := by decide +kernel
theorem dL_law_358 : decode cL_law 358 = .ok (.iconst 1, 1) := by decide +kernel
theorem dL_law_359 : decode cL_law 359 = .ok (.iadd, 1) := by decide +kernel
theorem dL_law_360 : decode cL_law 360 = .ok (.iaload, 1) := by decide +kernel
theorem dL_law_361 : decode cL_law 361 = .ok (.invokevirtual 47, 3) := by decide +kernel
theorem dL_law_364 : decode cL_law 364 = .ok (.aload_n 2, 1) := by decide +kernel
theorem dL_law_365 : decode cL_law 365 = .ok (.aload_n 0, 1) := by decide +kernel
theorem dL_law_366 : decode cL_law 366 = .ok (.iload_n 3, 1) := by decide +kernel
theorem dL_law_367 : decode cL_law 367 = .ok (.iconst 1, 1) := by decide +kernel
theorem dL_law_368 : decode cL_law 368 = .ok (.iadd, 1) := by decide +kernel
theorem dL_law_369 : decode cL_law 369 = .ok (.iaload, 1) := by decide +kernel
theorem dL_law_370 : decode cL_law 370 = .ok (.invokevirtual 50, 3) := by decide +kernel
theorem dL_law_373 : decode cL_law 373 = .ok (.if_icmp .eq 580, 3) := by decide +kernel
theorem dL_law_376 : decode cL_law 376 = .ok (.iconst 0, 1) := by decide +kernel
theorem dL_law_377 : decode cL_law 377 = .ok (.ireturn, 1) := by decide +kernel
theorem dL_law_378 : decode cL_law 378 = .ok (.aload_n 1, 1) := by decide +kernel
theorem dL_law_379 : decode cL_law 379 = .ok (.aload_n 0, 1) := by decide +kernel
theorem dL_law_380 : decode cL_law 380 = .ok (.iload_n 3, 1) := by decide +kernel
theorem dL_law_381 : decode cL_law 381 = .ok (.iconst 1, 1) := by decide +kernel
theorem dL_law_382 : decode cL_law 382 = .ok (.iadd, 1) := by decide +kernel
theorem dL_law_383 : decode cL_law 383 = .ok (.iaload, 1) := by decide +kernel
theorem dL_law_384 : decode cL_law 384 = .ok (.invokevirtual 51, 3) := by decide +kernel
theorem dL_law_387 : decode cL_law 387 = .ok (.aload_n 2, 1) := by decide +kernel
theorem dL_law_388 : decode cL_law 388 = .ok (.aload_n 0, 1) := by decide +kernel
theorem dL_law_389 : decode cL_law 389 = .ok (.iload_n 3, 1) := by decide +kernel
theorem dL_law_390 : decode cL_law 390 = .ok (.iconst 1, 1) := by decide +kernel
theorem dL_law_391 : decode cL_law 391 = .ok (.iadd, 1) := by decide +kernel
theorem dL_law_392 : decode cL_law 392 = .ok (.iaload, 1) := by decide +kernel
theorem dL_law_393 : decode cL_law 393 = .ok (.invokevirtual 54, 3) := by decide +kernel
theorem dL_law_396 : decode cL_law 396 = .ok (.if_icmp .eq 557, 3) := by decide +kernel
theorem dL_law_399 : decode cL_law 399 = .ok (.iconst 0, 1) := by decide +kernel
theorem dL_law_400 : decode cL_law 400 = .ok (.ireturn, 1) := by decide +kernel
theorem dL_law_401 : decode cL_law 401 = .ok (.aload_n 1, 1) := by decide +kernel
theorem dL_law_402 : decode cL_law 402 = .ok (.invokevirtual 55, 3) := by decide +kernel
theorem dL_law_405 : decode cL_law 405 = .ok (.aload_n 2, 1) := by decide +kernel
theorem dL_law_406 : decode cL_law 406 = .ok (.invokevirtual 58, 3) := by decide +kernel
theorem dL_law_409 : decode cL_law 409 = .ok (.if_icmp .eq 544, 3) := by decide +kernel
theorem dL_law_412 : decode cL_law 412 = .ok (.iconst 0, 1) := by decide +kernel
theorem dL_law_413 : decode cL_law 413 = .ok (.ireturn, 1) := by decide +kernel
theorem dL_law_414 : decode cL_law 414 = .ok (.aload_n 1, 1) := by decide +kernel
theorem dL_law_415 : decode cL_law 415 = .ok (.invokevirtual 59, 3) := by decide +kernel
theorem dL_law_418 : decode cL_law 418 = .ok (.aload_n 2, 1) := by decide +kernel
theorem dL_law_419 : decode cL_law 419 = .ok (.invokevirtual 62, 3) := by decide +kernel
theorem dL_law_422 : decode cL_law 422 = .ok (.if_icmp .eq 531, 3) := by decide +kernel
theorem dL_law_425 : decode cL_law 425 = .ok (.iconst 0, 1) := by decide +kernel
theorem dL_law_426 : decode cL_law 426 = .ok (.ireturn, 1) := by decide +kernel
theorem dL_law_427 : decode cL_law 427 = .ok (.aload_n 1, 1) := by decide +kernel
theorem dL_law_428 : decode cL_law 428 = .ok (.invokevirtual 63, 3) := by decide +kernel
theorem dL_law_431 : decode cL_law 431 = .ok (.aload_n 2, 1) := by decide +kernel
theorem dL_law_432 : decode cL_law 432 = .ok (.invokevirtual 66, 3) := by decide +kernel
theorem dL_law_435 : decode cL_law 435 = .ok (.if_icmp .eq 518, 3) := by decide +kernel
theorem dL_law_438 : decode cL_law 438 = .ok (.iconst 0, 1) := by decide +kernel
theorem dL_law_439 : decode cL_law 439 = .ok (.ireturn, 1) := by decide +kernel
theorem dL_law_440 : decode cL_law 440 = .ok (.aload_n 1, 1) := by decide +kernel
theorem dL_law_441 : decode cL_law 441 = .ok (.aload_n 0, 1) := by decide +kernel
theorem dL_law_442 : decode cL_law 442 = .ok (.iload_n 3, 1) := by decide +kernel
theorem dL_law_443 : decode cL_law 443 = .ok (.iconst 1, 1) := by decide +kernel
theorem dL_law_444 : decode cL_law 444 = .ok (.iadd, 1) := by decide +kernel
theorem dL_law_445 : decode cL_law 445 = .ok (.iaload, 1) := by decide +kernel
theorem dL_law_446 : decode cL_law 446 = .ok (.invokevirtual 67, 3) := by decide +kernel
theorem dL_law_449 : decode cL_law 449 = .ok (.aload_n 2, 1) := by decide +kernel
theorem dL_law_450 : decode cL_law 450 = .ok (.aload_n 0, 1) := by decide +kernel
theorem dL_law_451 : decode cL_law 451 = .ok (.iload_n 3, 1) := by decide +kernel
theorem dL_law_452 : decode cL_law 452 = .ok (.iconst 1, 1) := by decide +kernel
theorem dL_law_453 : decode cL_law 453 = .ok (.iadd, 1) := by decide +kernel
theorem dL_law_454 : decode cL_law 454 = .ok (.iaload, 1) := by decide +kernel
theorem dL_law_455 : decode cL_law 455 = .ok (.invokevirtual 70, 3) := by decide +kernel
theorem dL_law_458 : decode cL_law 458 = .ok (.if_icmp .eq 495, 3) := by decide +kernel
theorem dL_law_461 : decode cL_law 461 = .ok (.iconst 0, 1) := by decide +kernel
theorem dL_law_462 : decode cL_law 462 = .ok (.ireturn, 1) := by decide +kernel
theorem dL_law_463 : decode cL_law 463 = .ok (.aload_n 1, 1) := by decide +kernel
theorem dL_law_464 : decode cL_law 464 = .ok (.aload_n 0, 1) := by decide +kernel
theorem dL_law_465 : decode cL_law 465 = .ok (.iload_n 3, 1) := by decide +kernel
theorem dL_law_466 : decode cL_law 466 = .ok (.iconst 1, 1) := by decide +kernel
theorem dL_law_467 : decode cL_law 467 = .ok (.iadd, 1) := by decide +kernel
theorem dL_law_468 : decode cL_law 468 = .ok (.iaload, 1) := by decide +kernel
theorem dL_law_469 : decode cL_law 469 = .ok (.invokevirtual 71, 3) := by decide +kernel
theorem dL_law_472 : decode cL_law 472 = .ok (.aload_n 2, 1) := by decide +kernel
theorem dL_law_473 : decode cL_law 473 = .ok (.aload_n 0, 1) := by decide +kernel
theorem dL_law_474 : decode cL_law 474 = .ok (.iload_n 3, 1) := by decide +kernel
theorem dL_law_475 : decode cL_law 475 = .ok (.iconst 1, 1) := by decide +kernel
theorem dL_law_476 : decode cL_law 476 = .ok (.iadd, 1) := by decide +kernel
theorem dL_law_477 : decode cL_law 477 = .ok (.iaload, 1) := by decide +kernel
theorem dL_law_478 : decode cL_law 478 = .ok (.invokevirtual 74, 3) := by decide +kernel
theorem dL_law_481 : decode cL_law 481 = .ok (.if_icmp .eq 472, 3) := by decide +kernel
theorem dL_law_484 : decode cL_law 484 = .ok (.iconst 0, 1) := by decide +kernel
theorem dL_law_485 : decode cL_law 485 = .ok (.ireturn, 1) := by decide +kernel
theorem dL_law_486 : decode cL_law 486 = .ok (.aload_n 1, 1) := by decide +kernel
theorem dL_law_487 : decode cL_law 487 = .ok (.aload_n 0, 1) := by decide +kernel
theorem dL_law_488 : decode cL_law 488 = .ok (.iload_n 3, 1) := by decide +kernel
theorem dL_law_489 : decode cL_law 489 = .ok (.iconst 1, 1) := by decide +kernel
theorem dL_law_490 : decode cL_law 490 = .ok (.iadd, 1) := by decide +kernel
theorem dL_law_491 : decode cL_law 491 = .ok (.iaload, 1) := by decide +kernel
theorem dL_law_492 : decode cL_law 492 = .ok (.invokevirtual 75, 3) := by decide +kernel
theorem dL_law_495 : decode cL_law 495 = .ok (.aload_n 2, 1) := by decide +kernel
theorem dL_law_496 : decode cL_law 496 = .ok (.aload_n 0, 1) := by decide +kernel
theorem dL_law_497 : decode cL_law 497 = .ok (.iload_n 3, 1) := by decide +kernel
theorem dL_law_498 : decode cL_law 498 = .ok (.iconst 1, 1) := by decide +kernel
theorem dL_law_499 : decode cL_law 499 = .ok (.iadd, 1) := by decide +kernel
theorem dL_law_500 : decode cL_law 500 = .ok (.iaload, 1) := by decide +kernel
theorem dL_law_501 : decode cL_law 501 = .ok (.invokevirtual 78, 3) := by decide +kernel
theorem dL_law_504 : decode cL_law 504 = .ok (.if_icmp .eq 449, 3) := by decide +kernel
theorem dL_law_507 : decode cL_law 507 = .ok (.iconst 0, 1) := by decide +kernel
theorem dL_law_508 : decode cL_law 508 = .ok (.ireturn, 1) := by decide +kernel
theorem dL_law_509 : decode cL_law 509 = .ok (.aload_n 1, 1) := by decide +kernel
theorem dL_law_510 : decode cL_law 510 = .ok (.invokevirtual 79, 3) := by decide +kernel
theorem dL_law_513 : decode cL_law 513 = .ok (.aload_n 2, 1) := by decide +kernel
theorem dL_law_514 : decode cL_law 514 = .ok (.invokevirtual 82, 3) := by decide +kernel
theorem dL_law_517 : decode cL_law 517 = .ok (.if_icmp .eq 436, 3) := by decide +kernel
theorem dL_law_520 : decode cL_law 520 = .ok (.iconst 0, 1) := by decide +kernel
theorem dL_law_521 : decode cL_law 521 = .ok (.ireturn, 1) := by decide +kernel
theorem dL_law_522 : decode cL_law 522 = .ok (.aload_n 1, 1) := by decide +kernel
theorem dL_law_523 : decode cL_law 523 = .ok (.aload_n 0, 1) := by decide +kernel
theorem dL_law_524 : decode cL_law 524 = .ok (.iload_n 3, 1) := by decide +kernel
theorem dL_law_525 : decode cL_law 525 = .ok (.iconst 1, 1) := by decide +kernel
theorem dL_law_526 : decode cL_law 526 = .ok (.iadd, 1) := by decide +kernel
theorem dL_law_527 : decode cL_law 527 = .ok (.iaload, 1) := by decide +kernel
theorem dL_law_528 : decode cL_law 528 = .ok (.aload_n 0, 1) := by decide +kernel
theorem dL_law_529 : decode cL_law 529 = .ok (.iload_n 3, 1) := by decide +kernel
theorem dL_law_530 : decode cL_law 530 = .ok (.iconst 2, 1) := by decide +kernel
theorem dL_law_531 : decode cL_law 531 = .ok (.iadd, 1) := by decide +kernel
theorem dL_law_532 : decode cL_law 532 = .ok (.iaload, 1) := by decide +kernel
theorem dL_law_533 : decode cL_law 533 = .ok (.invokevirtual 83, 3) := by decide +kernel
theorem dL_law_536 : decode cL_law 536 = .ok (.aload_n 2, 1) := by decide +kernel
theorem dL_law_537 : decode cL_law 537 = .ok (.aload_n 0, 1) := by decide +kernel
theorem dL_law_538 : decode cL_law 538 = .ok (.iload_n 3, 1) := by decide +kernel
theorem dL_law_539 : decode cL_law 539 = .ok (.iconst 1, 1) := by decide +kernel
theorem dL_law_540 : decode cL_law 540 = .ok (.iadd, 1) := by decide +kernel
theorem dL_law_541 : decode cL_law 541 = .ok (.iaload, 1) := by decide +kernel
theorem dL_law_542 : decode cL_law 542 = .ok (.aload_n 0, 1) := by decide +kernel
theorem dL_law_543 : decode cL_law 543 = .ok (.iload_n 3, 1) := by decide +kernel
theorem dL_law_544 : decode cL_law 544 = .ok (.iconst 2, 1) := by decide +kernel
theorem dL_law_545 : decode cL_law 545 = .ok (.iadd, 1) := by decide +kernel
theorem dL_law_546 : decode cL_law 546 = .ok (.iaload, 1) := by decide +kernel
theorem dL_law_547 : decode cL_law 547 = .ok (.invokevirtual 86, 3) := by decide +kernel
theorem dL_law_550 : decode cL_law 550 = .ok (.if_icmp .eq 403, 3) := by decide +kernel
theorem dL_law_553 : decode cL_law 553 = .ok (.iconst 0, 1) := by decide +kernel
theorem dL_law_554 : decode cL_law 554 = .ok (.ireturn, 1) := by decide +kernel
theorem dL_law_555 : decode cL_law 555 = .ok (.aload_n 1, 1) := by decide +kernel
theorem dL_law_556 : decode cL_law 556 = .ok (.aload_n 0, 1) := by decide +kernel
theorem dL_law_557 : decode cL_law 557 = .ok (.iload_n 3, 1) := by decide +kernel
theorem dL_law_558 : decode cL_law 558 = .ok (.iconst 1, 1) := by decide +kernel
theorem dL_law_559 : decode cL_law 559 = .ok (.iadd, 1) := by decide +kernel
theorem dL_law_560 : decode cL_law 560 = .ok (.iaload, 1) := by decide +kernel
theorem dL_law_561 : decode cL_law 561 = .ok (.aload_n 0, 1) := by decide +kernel
theorem dL_law_562 : decode cL_law 562 = .ok (.iload_n 3, 1) := by decide +kernel
theorem dL_law_563 : decode cL_law 563 = .ok (.iconst 2, 1) := by decide +kernel
theorem dL_law_564 : decode cL_law 564 = .ok (.iadd, 1) := by decide +kernel
theorem dL_law_565 : decode cL_law 565 = .ok (.iaload, 1) := by decide +kernel
theorem dL_law_566 : decode cL_law 566 = .ok (.ifCond .eq 7, 3) := by decide +kernel
theorem dL_law_569 : decode cL_law 569 = .ok (.iconst 1, 1) := by decide +kernel
theorem dL_law_570 : decode cL_law 570 = .ok (.goto 4, 3) := by decide +kernel
theorem dL_law_573 : decode cL_law 573 = .ok (.iconst 0, 1) := by decide +kernel
theorem dL_law_574 : decode cL_law 574 = .ok (.invokevirtual 87, 3) := by decide +kernel
theorem dL_law_577 : decode cL_law 577 = .ok (.aload_n 2, 1) := by decide +kernel
theorem dL_law_578 : decode cL_law 578 = .ok (.aload_n 0, 1) := by decide +kernel
theorem dL_law_579 : decode cL_law 579 = .ok (.iload_n 3, 1) := by decide +kernel
theorem dL_law_580 : decode cL_law 580 = .ok (.iconst 1, 1) := by decide +kernel
theorem dL_law_581 : decode cL_law 581 = .ok (.iadd, 1) := by decide +kernel
theorem dL_law_582 : decode cL_law 582 = .ok (.iaload, 1) := by decide +kernel
theorem dL_law_583 : decode cL_law 583 = .ok (.aload_n 0, 1) := by decide +kernel
theorem dL_law_584 : decode cL_law 584 = .ok (.iload_n 3, 1) := by decide +kernel
theorem dL_law_585 : decode cL_law 585 = .ok (.iconst 2, 1) := by decide +kernel
theorem dL_law_586 : decode cL_law 586 = .ok (.iadd, 1) := by decide +kernel
theorem dL_law_587 : decode cL_law 587 = .ok (.iaload, 1) := by decide +kernel
theorem dL_law_588 : decode cL_law 588 = .ok (.ifCond .eq 7, 3) := by decide +kernel
theorem dL_law_591 : decode cL_law 591 = .ok (.iconst 1, 1) := by decide +kernel
theorem dL_law_592 : decode cL_law 592 = .ok (.goto 4, 3) := by decide +kernel
theorem dL_law_595 : decode cL_law 595 = .ok (.iconst 0, 1) := by decide +kernel
theorem dL_law_596 : decode cL_law 596 = .ok (.invokevirtual 91, 3) := by decide +kernel
theorem dL_law_599 : decode cL_law 599 = .ok (.lcmp, 1) := by decide +kernel
theorem dL_law_600 : decode cL_law 600 = .ok (.ifCond .eq 353, 3) := by decide +kernel
theorem dL_law_603 : decode cL_law 603 = .ok (.iconst 0, 1) := by decide +kernel
theorem dL_law_604 : decode cL_law 604 = .ok (.ireturn, 1) := by decide +kernel
theorem dL_law_605 : decode cL_law 605 = .ok (.aload_n 1, 1) := by decide +kernel
theorem dL_law_606 : decode cL_law 606 = .ok (.aload_n 0, 1) := by decide +kernel
theorem dL_law_607 : decode cL_law 607 = .ok (.iload_n 3, 1) := by decide +kernel
theorem dL_law_608 : decode cL_law 608 = .ok (.iconst 1, 1) := by decide +kernel
theorem dL_law_609 : decode cL_law 609 = .ok (.iadd, 1) := by decide +kernel
theorem dL_law_610 : decode cL_law 610 = .ok (.iaload, 1) := by decide +kernel
theorem dL_law_611 : decode cL_law 611 = .ok (.aload_n 0, 1) := by decide +kernel
theorem dL_law_612 : decode cL_law 612 = .ok (.iload_n 3, 1) := by decide +kernel
theorem dL_law_613 : decode cL_law 613 = .ok (.iconst 2, 1) := by decide +kernel
theorem dL_law_614 : decode cL_law 614 = .ok (.iadd, 1) := by decide +kernel
theorem dL_law_615 : decode cL_law 615 = .ok (.iaload, 1) := by decide +kernel
theorem dL_law_616 : decode cL_law 616 = .ok (.ifCond .eq 7, 3) := by decide +kernel
theorem dL_law_619 : decode cL_law 619 = .ok (.iconst 1, 1) := by decide +kernel
theorem dL_law_620 : decode cL_law 620 = .ok (.goto 4, 3) := by decide +kernel
theorem dL_law_623 : decode cL_law 623 = .ok (.iconst 0, 1) := by decide +kernel
theorem dL_law_624 : decode cL_law 624 = .ok (.invokevirtual 92, 3) := by decide +kernel
theorem dL_law_627 : decode cL_law 627 = .ok (.aload_n 2, 1) := by decide +kernel
theorem dL_law_628 : decode cL_law 628 = .ok (.aload_n 0, 1) := by decide +kernel
theorem dL_law_629 : decode cL_law 629 = .ok (.iload_n 3, 1) := by decide +kernel
theorem dL_law_630 : decode cL_law 630 = .ok (.iconst 1, 1) := by decide +kernel
theorem dL_law_631 : decode cL_law 631 = .ok (.iadd, 1) := by decide +kernel
theorem dL_law_632 : decode cL_law 632 = .ok (.iaload, 1) := by decide +kernel
theorem dL_law_633 : decode cL_law 633 = .ok (.aload_n 0, 1) := by decide +kernel
theorem dL_law_634 : decode cL_law 634 = .ok (.iload_n 3, 1) := by decide +kernel
theorem dL_law_635 : decode cL_law 635 = .ok (.iconst 2, 1) := by decide +kernel
theorem dL_law_636 : decode cL_law 636 = .ok (.iadd, 1) := by decide +kernel
theorem dL_law_637 : decode cL_law 637 = .ok (.iaload, 1) := by decide +kernel
theorem dL_law_638 : decode cL_law 638 = .ok (.ifCond .eq 7, 3) := by decide +kernel
theorem dL_law_641 : decode cL_law 641 = .ok (.iconst 1, 1) := by decide +kernel
theorem dL_law_642 : decode cL_law 642 = .ok (.goto 4, 3) := by decide +kernel
theorem dL_law_645 : decode cL_law 645 = .ok (.iconst 0, 1) := by decide +kernel
theorem dL_law_646 : decode cL_law 646 = .ok (.invokevirtual 95, 3) := by decide +kernel
theorem dL_law_649 : decode cL_law 649 = .ok (.lcmp, 1) := by decide +kernel
theorem dL_law_650 : decode cL_law 650 = .ok (.ifCond .eq 303, 3) := by decide +kernel
theorem dL_law_653 : decode cL_law 653 = .ok (.iconst 0, 1) := by decide +kernel
theorem dL_law_654 : decode cL_law 654 = .ok (.ireturn, 1) := by decide +kernel
theorem dL_law_655 : decode cL_law 655 = .ok (.aload_n 1, 1) := by decide +kernel
theorem dL_law_656 : decode cL_law 656 = .ok (.aload_n 0, 1) := by decide +kernel
theorem dL_law_657 : decode cL_law 657 = .ok (.iload_n 3, 1) := by decide +kernel
theorem dL_law_658 : decode cL_law 658 = .ok (.iconst 1, 1) := by decide +kernel
theorem dL_law_659 : decode cL_law 659 = .ok (.iadd, 1) := by decide +kernel
theorem dL_law_660 : decode cL_law 660 = .ok (.iaload, 1) := by decide +kernel
theorem dL_law_661 : decode cL_law 661 = .ok (.aload_n 0, 1) := by decide +kernel
theorem dL_law_662 : decode cL_law 662 = .ok (.iload_n 3, 1) := by decide +kernel
theorem dL_law_663 : decode cL_law 663 = .ok (.iconst 2, 1) := by decide +kernel
theorem dL_law_664 : decode cL_law 664 = .ok (.iadd, 1) := by decide +kernel
theorem dL_law_665 : decode cL_law 665 = .ok (.iaload, 1) := by decide +kernel
theorem dL_law_666 : decode cL_law 666 = .ok (.aload_n 0, 1) := by decide +kernel
theorem dL_law_667 : decode cL_law 667 = .ok (.iload_n 3, 1) := by decide +kernel
theorem dL_law_668 : decode cL_law 668 = .ok (.iconst 3, 1) := by decide +kernel
theorem dL_law_669 : decode cL_law 669 = .ok (.iadd, 1) := by decide +kernel
theorem dL_law_670 : decode cL_law 670 = .ok (.iaload, 1) := by decide +kernel
theorem dL_law_671 : decode cL_law 671 = .ok (.ifCond .eq 7, 3) := by decide +kernel
theorem dL_law_674 : decode cL_law 674 = .ok (.iconst 1, 1) := by decide +kernel
theorem dL_law_675 : decode cL_law 675 = .ok (.goto 4, 3) := by decide +kernel
theorem dL_law_678 : decode cL_law 678 = .ok (.iconst 0, 1) := by decide +kernel
theorem dL_law_679 : decode cL_law 679 = .ok (.invokevirtual 96, 3) := by decide +kernel
theorem dL_law_682 : decode cL_law 682 = .ok (.aload_n 2, 1) := by decide +kernel
theorem dL_law_683 : decode cL_law 683 = .ok (.aload_n 0, 1) := by decide +kernel
theorem dL_law_684 : decode cL_law 684 = .ok (.iload_n 3, 1) := by decide +kernel
theorem dL_law_685 : decode cL_law 685 = .ok (.iconst 1, 1) := by decide +kernel
theorem dL_law_686 : decode cL_law 686 = .ok (.iadd, 1) := by decide +kernel
theorem dL_law_687 : decode cL_law 687 = .ok (.iaload, 1) := by decide +kernel
theorem dL_law_688 : decode cL_law 688 = .ok (.aload_n 0, 1) := by decide +kernel
theorem dL_law_689 : decode cL_law 689 = .ok (.iload_n 3, 1) := by decide +kernel
theorem dL_law_690 : decode cL_law 690 = .ok (.iconst 2, 1) := by decide +kernel
theorem dL_law_691 : decode cL_law 691 = .ok (.iadd, 1) := by decide +kernel
theorem dL_law_692 : decode cL_law 692 = .ok (.iaload, 1) := by decide +kernel
theorem dL_law_693 : decode cL_law 693 = .ok (.aload_n 0, 1) := by decide +kernel
theorem dL_law_694 : decode cL_law 694 = .ok (.iload_n 3, 1) := by decide +kernel
theorem dL_law_695 : decode cL_law 695 = .ok (.iconst 3, 1) := by decide +kernel
theorem dL_law_696 : decode cL_law 696 = .ok (.iadd, 1) := by decide +kernel
theorem dL_law_697 : decode cL_law 697 = .ok (.iaload, 1) := by decide +kernel
theorem dL_law_698 : decode cL_law 698 = .ok (.ifCond .eq 7, 3) := by decide +kernel
theorem dL_law_701 : decode cL_law 701 = .ok (.iconst 1, 1) := by decide +kernel
theorem dL_law_702 : decode cL_law 702 = .ok (.goto 4, 3) := by decide +kernel
theorem dL_law_705 : decode cL_law 705 = .ok (.iconst 0, 1) := by decide +kernel
theorem dL_law_706 : decode cL_law 706 = .ok (.invokevirtual 100, 3) := by decide +kernel
theorem dL_law_709 : decode cL_law 709 = .ok (.lcmp, 1) := by decide +kernel
theorem dL_law_710 : decode cL_law 710 = .ok (.ifCond .eq 243, 3) := by decide +kernel
theorem dL_law_713 : decode cL_law 713 = .ok (.iconst 0, 1) := by decide +kernel
theorem dL_law_714 : decode cL_law 714 = .ok (.ireturn, 1) := by decide +kernel
theorem dL_law_715 : decode cL_law 715 = .ok (.aload_n 1, 1) := by decide +kernel
theorem dL_law_716 : decode cL_law 716 = .ok (.aload_n 0, 1) := by decide +kernel
theorem dL_law_717 : decode cL_law 717 = .ok (.iload_n 3, 1) := by decide +kernel
theorem dL_law_718 : decode cL_law 718 = .ok (.iconst 1, 1) := by decide +kernel
theorem dL_law_719 : decode cL_law 719 = .ok (.iadd, 1) := by decide +kernel
theorem dL_law_720 : decode cL_law 720 = .ok (.iaload, 1) := by decide +kernel
theorem dL_law_721 : decode cL_law 721 = .ok (.invokevirtual 101, 3) := by decide +kernel
theorem dL_law_724 : decode cL_law 724 = .ok (.aload_n 2, 1) := by decide +kernel
theorem dL_law_725 : decode cL_law 725 = .ok (.aload_n 0, 1) := by decide +kernel
theorem dL_law_726 : decode cL_law 726 = .ok (.iload_n 3, 1) := by decide +kernel
theorem dL_law_727 : decode cL_law 727 = .ok (.iconst 1, 1) := by decide +kernel
theorem dL_law_728 : decode cL_law 728 = .ok (.iadd, 1) := by decide +kernel
theorem dL_law_729 : decode cL_law 729 = .ok (.iaload, 1) := by decide +kernel
theorem dL_law_730 : decode cL_law 730 = .ok (.invokevirtual 104, 3) := by decide +kernel
theorem dL_law_733 : decode cL_law 733 = .ok (.if_icmp .eq 220, 3) := by decide +kernel
theorem dL_law_736 : decode cL_law 736 = .ok (.iconst 0, 1) := by decide +kernel
theorem dL_law_737 : decode cL_law 737 = .ok (.ireturn, 1) := by decide +kernel
theorem dL_law_738 : decode cL_law 738 = .ok (.aload_n 1, 1) := by decide +kernel
theorem dL_law_739 : decode cL_law 739 = .ok (.aload_n 0, 1) := by decide +kernel
theorem dL_law_740 : decode cL_law 740 = .ok (.iload_n 3, 1) := by decide +kernel
theorem dL_law_741 : decode cL_law 741 = .ok (.iconst 1, 1) := by decide +kernel
theorem dL_law_742 : decode cL_law 742 = .ok (.iadd, 1) := by decide +kernel
theorem dL_law_743 : decode cL_law 743 = .ok (.iaload, 1) := by decide +kernel
theorem dL_law_744 : decode cL_law 744 = .ok (.aload_n 0, 1) := by decide +kernel
theorem dL_law_745 : decode cL_law 745 = .ok (.iload_n 3, 1) := by decide +kernel
theorem dL_law_746 : decode cL_law 746 = .ok (.iconst 2, 1) := by decide +kernel
theorem dL_law_747 : decode cL_law 747 = .ok (.iadd, 1) := by decide +kernel
theorem dL_law_748 : decode cL_law 748 = .ok (.iaload, 1) := by decide +kernel
theorem dL_law_749 : decode cL_law 749 = .ok (.invokevirtual 105, 3) := by decide +kernel
theorem dL_law_752 : decode cL_law 752 = .ok (.aload_n 2, 1) := by decide +kernel
theorem dL_law_753 : decode cL_law 753 = .ok (.aload_n 0, 1) := by decide +kernel
theorem dL_law_754 : decode cL_law 754 = .ok (.iload_n 3, 1) := by decide +kernel
theorem dL_law_755 : decode cL_law 755 = .ok (.iconst 1, 1) := by decide +kernel
theorem dL_law_756 : decode cL_law 756 = .ok (.iadd, 1) := by decide +kernel
theorem dL_law_757 : decode cL_law 757 = .ok (.iaload, 1) := by decide +kernel
theorem dL_law_758 : decode cL_law 758 = .ok (.aload_n 0, 1) := by decide +kernel
theorem dL_law_759 : decode cL_law 759 = .ok (.iload_n 3, 1) := by decide +kernel
theorem dL_law_760 : decode cL_law 760 = .ok (.iconst 2, 1) := by decide +kernel
theorem dL_law_761 : decode cL_law 761 = .ok (.iadd, 1) := by decide +kernel
theorem dL_law_762 : decode cL_law 762 = .ok (.iaload, 1) := by decide +kernel
theorem dL_law_763 : decode cL_law 763 = .ok (.invokevirtual 108, 3) := by decide +kernel
theorem dL_law_766 : decode cL_law 766 = .ok (.if_icmp .eq 187, 3) := by decide +kernel
theorem dL_law_769 : decode cL_law 769 = .ok (.iconst 0, 1) := by decide +kernel
theorem dL_law_770 : decode cL_law 770 = .ok (.ireturn, 1) := by decide +kernel
theorem dL_law_771 : decode cL_law 771 = .ok (.aload_n 1, 1) := by decide +kernel
theorem dL_law_772 : decode cL_law 772 = .ok (.invokevirtual 109, 3) := by decide +kernel
theorem dL_law_775 : decode cL_law 775 = .ok (.aload_n 2, 1) := by decide +kernel
theorem dL_law_776 : decode cL_law 776 = .ok (.invokevirtual 112, 3) := by decide +kernel
theorem dL_law_779 : decode cL_law 779 = .ok (.if_icmp .eq 174, 3) := by decide +kernel
theorem dL_law_782 : decode cL_law 782 = .ok (.iconst 0, 1) := by decide +kernel
theorem dL_law_783 : decode cL_law 783 = .ok (.ireturn, 1) := by decide +kernel
theorem dL_law_784 : decode cL_law 784 = .ok (.aload_n 1, 1) := by decide +kernel
theorem dL_law_785 : decode cL_law 785 = .ok (.invokevirtual 113, 3) := by decide +kernel
theorem dL_law_788 : decode cL_law 788 = .ok (.aload_n 2, 1) := by decide +kernel
theorem dL_law_789 : decode cL_law 789 = .ok (.invokevirtual 116, 3) := by decide +kernel
theorem dL_law_792 : decode cL_law 792 = .ok (.if_icmp .eq 161, 3) := by decide +kernel
theorem dL_law_795 : decode cL_law 795 = .ok (.iconst 0, 1) := by decide +kernel
theorem dL_law_796 : decode cL_law 796 = .ok (.ireturn, 1) := by decide +kernel
theorem dL_law_797 : decode cL_law 797 = .ok (.aload_n 1, 1) := by decide +kernel
theorem dL_law_798 : decode cL_law 798 = .ok (.aload_n 0, 1) := by decide +kernel
theorem dL_law_799 : decode cL_law 799 = .ok (.iload_n 3, 1) := by decide +kernel
theorem dL_law_800 : decode cL_law 800 = .ok (.iconst 1, 1) := by decide +kernel
theorem dL_law_801 : decode cL_law 801 = .ok (.iadd, 1) := by decide +kernel
theorem dL_law_802 : decode cL_law 802 = .ok (.iaload, 1) := by decide +kernel
theorem dL_law_803 : decode cL_law 803 = .ok (.i2l, 1) := by decide +kernel
theorem dL_law_804 : decode cL_law 804 = .ok (.bipush 32, 2) := by decide +kernel
theorem dL_law_806 : decode cL_law 806 = .ok (.lshl, 1) := by decide +kernel
theorem dL_law_807 : decode cL_law 807 = .ok (.aload_n 0, 1) := by decide +kernel
theorem dL_law_808 : decode cL_law 808 = .ok (.iload_n 3, 1) := by decide +kernel
theorem dL_law_809 : decode cL_law 809 = .ok (.iconst 2, 1) := by decide +kernel
theorem dL_law_810 : decode cL_law 810 = .ok (.iadd, 1) := by decide +kernel
theorem dL_law_811 : decode cL_law 811 = .ok (.iaload, 1) := by decide +kernel
theorem dL_law_812 : decode cL_law 812 = .ok (.i2l, 1) := by decide +kernel
theorem dL_law_813 : decode cL_law 813 = .ok (.ldc2_w 13, 3) := by decide +kernel
theorem dL_law_816 : decode cL_law 816 = .ok (.land, 1) := by decide +kernel
theorem dL_law_817 : decode cL_law 817 = .ok (.lor, 1) := by decide +kernel
theorem dL_law_818 : decode cL_law 818 = .ok (.invokevirtual 117, 3) := by decide +kernel
theorem dL_law_821 : decode cL_law 821 = .ok (.aload_n 2, 1) := by decide +kernel
theorem dL_law_822 : decode cL_law 822 = .ok (.aload_n 0, 1) := by decide +kernel
theorem dL_law_823 : decode cL_law 823 = .ok (.iload_n 3, 1) := by decide +kernel
theorem dL_law_824 : decode cL_law 824 = .ok (.iconst 1, 1) := by decide +kernel
theorem dL_law_825 : decode cL_law 825 = .ok (.iadd, 1) := by decide +kernel
theorem dL_law_826 : decode cL_law 826 = .ok (.iaload, 1) := by decide +kernel
theorem dL_law_827 : decode cL_law 827 = .ok (.i2l, 1) := by decide +kernel
theorem dL_law_828 : decode cL_law 828 = .ok (.bipush 32, 2) := by decide +kernel
theorem dL_law_830 : decode cL_law 830 = .ok (.lshl, 1) := by decide +kernel
theorem dL_law_831 : decode cL_law 831 = .ok (.aload_n 0, 1) := by decide +kernel
theorem dL_law_832 : decode cL_law 832 = .ok (.iload_n 3, 1) := by decide +kernel
theorem dL_law_833 : decode cL_law 833 = .ok (.iconst 2, 1) := by decide +kernel
theorem dL_law_834 : decode cL_law 834 = .ok (.iadd, 1) := by decide +kernel
theorem dL_law_835 : decode cL_law 835 = .ok (.iaload, 1) := by decide +kernel
theorem dL_law_836 : decode cL_law 836 = .ok (.i2l, 1) := by decide +kernel
theorem dL_law_837 : decode cL_law 837 = .ok (.ldc2_w 13, 3) := by decide +kernel
theorem dL_law_840 : decode cL_law 840 = .ok (.land, 1) := by decide +kernel
theorem dL_law_841 : decode cL_law 841 = .ok (.lor, 1) := by decide +kernel
theorem dL_law_842 : decode cL_law 842 = .ok (.invokevirtual 121, 3) := by decide +kernel
theorem dL_law_845 : decode cL_law 845 = .ok (.lcmp, 1) := by decide +kernel
theorem dL_law_846 : decode cL_law 846 = .ok (.ifCond .eq 107, 3) := by decide +kernel
theorem dL_law_849 : decode cL_law 849 = .ok (.iconst 0, 1) := by decide +kernel
theorem dL_law_850 : decode cL_law 850 = .ok (.ireturn, 1) := by decide +kernel
theorem dL_law_851 : decode cL_law 851 = .ok (.aload_n 1, 1) := by decide +kernel
theorem dL_law_852 : decode cL_law 852 = .ok (.aload_n 0, 1) := by decide +kernel
theorem dL_law_853 : decode cL_law 853 = .ok (.iload_n 3, 1) := by decide +kernel
theorem dL_law_854 : decode cL_law 854 = .ok (.iconst 1, 1) := by decide +kernel
theorem dL_law_855 : decode cL_law 855 = .ok (.iadd, 1) := by decide +kernel
theorem dL_law_856 : decode cL_law 856 = .ok (.iaload, 1) := by decide +kernel
theorem dL_law_857 : decode cL_law 857 = .ok (.aload_n 0, 1) := by decide +kernel
theorem dL_law_858 : decode cL_law 858 = .ok (.iload_n 3, 1) := by decide +kernel
theorem dL_law_859 : decode cL_law 859 = .ok (.iconst 2, 1) := by decide +kernel
theorem dL_law_860 : decode cL_law 860 = .ok (.iadd, 1) := by decide +kernel
theorem dL_law_861 : decode cL_law 861 = .ok (.iaload, 1) := by decide +kernel
theorem dL_law_862 : decode cL_law 862 = .ok (.invokevirtual 122, 3) := by decide +kernel
theorem dL_law_865 : decode cL_law 865 = .ok (.aload_n 2, 1) := by decide +kernel
theorem dL_law_866 : decode cL_law 866 = .ok (.aload_n 0, 1) := by decide +kernel
theorem dL_law_867 : decode cL_law 867 = .ok (.iload_n 3, 1) := by decide +kernel
theorem dL_law_868 : decode cL_law 868 = .ok (.iconst 1, 1) := by decide +kernel
theorem dL_law_869 : decode cL_law 869 = .ok (.iadd, 1) := by decide +kernel
theorem dL_law_870 : decode cL_law 870 = .ok (.iaload, 1) := by decide +kernel
theorem dL_law_871 : decode cL_law 871 = .ok (.aload_n 0, 1) := by decide +kernel
theorem dL_law_872 : decode cL_law 872 = .ok (.iload_n 3, 1) := by decide +kernel
theorem dL_law_873 : decode cL_law 873 = .ok (.iconst 2, 1) := by decide +kernel
theorem dL_law_874 : decode cL_law 874 = .ok (.iadd, 1) := by decide +kernel
theorem dL_law_875 : decode cL_law 875 = .ok (.iaload, 1) := by decide +kernel
theorem dL_law_876 : decode cL_law 876 = .ok (.invokevirtual 125, 3) := by decide +kernel
theorem dL_law_879 : decode cL_law 879 = .ok (.if_icmp .eq 74, 3) := by decide +kernel
theorem dL_law_882 : decode cL_law 882 = .ok (.iconst 0, 1) := by decide +kernel
theorem dL_law_883 : decode cL_law 883 = .ok (.ireturn, 1) := by decide +kernel
theorem dL_law_884 : decode cL_law 884 = .ok (.aload_n 1, 1) := by decide +kernel
theorem dL_law_885 : decode cL_law 885 = .ok (.aload_n 0, 1) := by decide +kernel
theorem dL_law_886 : decode cL_law 886 = .ok (.iload_n 3, 1) := by decide +kernel
theorem dL_law_887 : decode cL_law 887 = .ok (.iconst 1, 1) := by decide +kernel
theorem dL_law_888 : decode cL_law 888 = .ok (.iadd, 1) := by decide +kernel
theorem dL_law_889 : decode cL_law 889 = .ok (.iaload, 1) := by decide +kernel
theorem dL_law_890 : decode cL_law 890 = .ok (.invokevirtual 126, 3) := by decide +kernel
theorem dL_law_893 : decode cL_law 893 = .ok (.aload_n 2, 1) := by decide +kernel
theorem dL_law_894 : decode cL_law 894 = .ok (.aload_n 0, 1) := by decide +kernel
theorem dL_law_895 : decode cL_law 895 = .ok (.iload_n 3, 1) := by decide +kernel
theorem dL_law_896 : decode cL_law 896 = .ok (.iconst 1, 1) := by decide +kernel
theorem dL_law_897 : decode cL_law 897 = .ok (.iadd, 1) := by decide +kernel
theorem dL_law_898 : decode cL_law 898 = .ok (.iaload, 1) := by decide +kernel
theorem dL_law_899 : decode cL_law 899 = .ok (.invokevirtual 129, 3) := by decide +kernel
theorem dL_law_902 : decode cL_law 902 = .ok (.if_icmp .eq 51, 3) := by decide +kernel
theorem dL_law_905 : decode cL_law 905 = .ok (.iconst 0, 1) := by decide +kernel
theorem dL_law_906 : decode cL_law 906 = .ok (.ireturn, 1) := by decide +kernel
theorem dL_law_907 : decode cL_law 907 = .ok (.aload_n 1, 1) := by decide +kernel
theorem dL_law_908 : decode cL_law 908 = .ok (.aload_n 0, 1) := by decide +kernel
theorem dL_law_909 : decode cL_law 909 = .ok (.iload_n 3, 1) := by decide +kernel
theorem dL_law_910 : decode cL_law 910 = .ok (.iconst 1, 1) := by decide +kernel
theorem dL_law_911 : decode cL_law 911 = .ok (.iadd, 1) := by decide +kernel
theorem dL_law_912 : decode cL_law 912 = .ok (.iaload, 1) := by decide +kernel
theorem dL_law_913 : decode cL_law 913 = .ok (.invokevirtual 130, 3) := by decide +kernel
theorem dL_law_916 : decode cL_law 916 = .ok (.aload_n 2, 1) := by decide +kernel
theorem dL_law_917 : decode cL_law 917 = .ok (.aload_n 0, 1) := by decide +kernel
theorem dL_law_918 : decode cL_law 918 = .ok (.iload_n 3, 1) := by decide +kernel
theorem dL_law_919 : decode cL_law 919 = .ok (.iconst 1, 1) := by decide +kernel
theorem dL_law_920 : decode cL_law 920 = .ok (.iadd, 1) := by decide +kernel
theorem dL_law_921 : decode cL_law 921 = .ok (.iaload, 1) := by decide +kernel
theorem dL_law_922 : decode cL_law 922 = .ok (.invokevirtual 133, 3) := by decide +kernel
theorem dL_law_925 : decode cL_law 925 = .ok (.if_icmp .eq 28, 3) := by decide +kernel
theorem dL_law_928 : decode cL_law 928 = .ok (.iconst 0, 1) := by decide +kernel
theorem dL_law_929 : decode cL_law 929 = .ok (.ireturn, 1) := by decide +kernel
theorem dL_law_930 : decode cL_law 930 = .ok (.aload_n 1, 1) := by decide +kernel
theorem dL_law_931 : decode cL_law 931 = .ok (.aload_n 0, 1) := by decide +kernel
theorem dL_law_932 : decode cL_law 932 = .ok (.iload_n 3, 1) := by decide +kernel
theorem dL_law_933 : decode cL_law 933 = .ok (.iconst 1, 1) := by decide +kernel
theorem dL_law_934 : decode cL_law 934 = .ok (.iadd, 1) := by decide +kernel
theorem dL_law_935 : decode cL_law 935 = .ok (.iaload, 1) := by decide +kernel
theorem dL_law_936 : decode cL_law 936 = .ok (.invokevirtual 134, 3) := by decide +kernel
theorem dL_law_939 : decode cL_law 939 = .ok (.aload_n 2, 1) := by decide +kernel
theorem dL_law_940 : decode cL_law 940 = .ok (.aload_n 0, 1) := by decide +kernel
theorem dL_law_941 : decode cL_law 941 = .ok (.iload_n 3, 1) := by decide +kernel
theorem dL_law_942 : decode cL_law 942 = .ok (.iconst 1, 1) := by decide +kernel
theorem dL_law_943 : decode cL_law 943 = .ok (.iadd, 1) := by decide +kernel
theorem dL_law_944 : decode cL_law 944 = .ok (.iaload, 1) := by decide +kernel
theorem dL_law_945 : decode cL_law 945 = .ok (.invokevirtual 137, 3) := by decide +kernel
theorem dL_law_948 : decode cL_law 948 = .ok (.if_icmp .eq 5, 3) := by decide +kernel
theorem dL_law_951 : decode cL_law 951 = .ok (.iconst 0, 1) := by decide +kernel
theorem dL_law_952 : decode cL_law 952 = .ok (.ireturn, 1) := by decide +kernel
theorem dL_law_953 : decode cL_law 953 = .ok (.iinc 3 4, 3) := by decide +kernel
theorem dL_law_956 : decode cL_law 956 = .ok (.goto (-938), 3) := by decide +kernel
theorem dL_law_959 : decode cL_law 959 = .ok (.iconst 1, 1) := by decide +kernel
theorem dL_law_960 : decode cL_law 960 = .ok (.ireturn, 1) := by decide +kernel
