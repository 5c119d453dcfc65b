theorem dX11_asks_175 : decode cX11_asks 175 = .ok (.iadd, 1) := by decide +kernel
theorem dX11_asks_176 : decode cX11_asks 176 = .ok (.iaload, 1) := by decide +kernel
theorem dX11_asks_177 : decode cX11_asks 177 = .ok (.ifCond .ne 33, 3) := by decide +kernel
theorem dX11_asks_180 : decode cX11_asks 180 = .ok (.iload 5, 2) := by decide +kernel
theorem dX11_asks_182 : decode cX11_asks 182 = .ok (.aload_n 0, 1) := by decide +kernel
theorem dX11_asks_183 : decode cX11_asks 183 = .ok (.getfield 331, 3) := by decide +kernel
theorem dX11_asks_186 : decode cX11_asks 186 = .ok (.if_icmp .eq 24, 3) := by decide +kernel
theorem dX11_asks_189 : decode cX11_asks 189 = .ok (.aload_n 0, 1) := by decide +kernel
theorem dX11_asks_190 : decode cX11_asks 190 = .ok (.iload_n 1, 1) := by decide +kernel
theorem dX11_asks_191 : decode cX11_asks 191 = .ok (.iload_n 2, 1) := by decide +kernel
theorem dX11_asks_192 : decode cX11_asks 192 = .ok (.iload 4, 2) := by decide +kernel
theorem dX11_asks_194 : decode cX11_asks 194 = .ok (.iconst 0, 1) := by decide +kernel
theorem dX11_asks_195 : decode cX11_asks 195 = .ok (.bipush 97, 2) := by decide +kernel
theorem dX11_asks_197 : decode cX11_asks 197 = .ok (.aload_n 0, 1) := by decide +kernel
theorem dX11_asks_198 : decode cX11_asks 198 = .ok (.getfield 101, 3) := by decide +kernel
theorem dX11_asks_201 : decode cX11_asks 201 = .ok (.iload 4, 2) := by decide +kernel
theorem dX11_asks_203 : decode cX11_asks 203 = .ok (.iaload, 1) := by decide +kernel
theorem dX11_asks_204 : decode cX11_asks 204 = .ok (.invokevirtual 327, 3) := by decide +kernel
theorem dX11_asks_207 : decode cX11_asks 207 = .ok (.ifCond .ne 4, 3) := by decide +kernel
theorem dX11_asks_210 : decode cX11_asks 210 = .ok (.return_, 1) := by decide +kernel
theorem dX11_asks_211 : decode cX11_asks 211 = .ok (.aload_n 0, 1) := by decide +kernel
theorem dX11_asks_212 : decode cX11_asks 212 = .ok (.getfield 132, 3) := by decide +kernel
theorem dX11_asks_215 : decode cX11_asks 215 = .ok (.iload 4, 2) := by decide +kernel
theorem dX11_asks_217 : decode cX11_asks 217 = .ok (.aload_n 0, 1) := by decide +kernel
theorem dX11_asks_218 : decode cX11_asks 218 = .ok (.getfield 40, 3) := by decide +kernel
theorem dX11_asks_221 : decode cX11_asks 221 = .ok (.bipush 22, 2) := by decide +kernel
theorem dX11_asks_223 : decode cX11_asks 223 = .ok (.iload_n 2, 1) := by decide +kernel
theorem dX11_asks_224 : decode cX11_asks 224 = .ok (.imul, 1) := by decide +kernel
theorem dX11_asks_225 : decode cX11_asks 225 = .ok (.iload 4, 2) := by decide +kernel
theorem dX11_asks_227 : decode cX11_asks 227 = .ok (.iadd, 1) := by decide +kernel
theorem dX11_asks_228 : decode cX11_asks 228 = .ok (.iaload, 1) := by decide +kernel
theorem dX11_asks_229 : decode cX11_asks 229 = .ok (.iastore, 1) := by decide +kernel
theorem dX11_asks_230 : decode cX11_asks 230 = .ok (.aload_n 0, 1) := by decide +kernel
theorem dX11_asks_231 : decode cX11_asks 231 = .ok (.getfield 135, 3) := by decide +kernel
theorem dX11_asks_234 : decode cX11_asks 234 = .ok (.iload 4, 2) := by decide +kernel
theorem dX11_asks_236 : decode cX11_asks 236 = .ok (.aload_n 0, 1) := by decide +kernel
theorem dX11_asks_237 : decode cX11_asks 237 = .ok (.getfield 132, 3) := by decide +kernel
theorem dX11_asks_240 : decode cX11_asks 240 = .ok (.iload 4, 2) := by decide +kernel
theorem dX11_asks_242 : decode cX11_asks 242 = .ok (.iaload, 1) := by decide +kernel
theorem dX11_asks_243 : decode cX11_asks 243 = .ok (.aload_n 0, 1) := by decide +kernel
theorem dX11_asks_244 : decode cX11_asks 244 = .ok (.getfield 138, 3) := by decide +kernel
theorem dX11_asks_247 : decode cX11_asks 247 = .ok (.iload 5, 2) := by decide +kernel
theorem dX11_asks_249 : decode cX11_asks 249 = .ok (.iaload, 1) := by decide +kernel
theorem dX11_asks_250 : decode cX11_asks 250 = .ok (.if_icmp .ge 13, 3) := by decide +kernel
theorem dX11_asks_253 : decode cX11_asks 253 = .ok (.aload_n 0, 1) := by decide +kernel
theorem dX11_asks_254 : decode cX11_asks 254 = .ok (.getfield 132, 3) := by decide +kernel
theorem dX11_asks_257 : decode cX11_asks 257 = .ok (.iload 4, 2) := by decide +kernel
theorem dX11_asks_259 : decode cX11_asks 259 = .ok (.iaload, 1) := by decide +kernel
theorem dX11_asks_260 : decode cX11_asks 260 = .ok (.goto 10, 3) := by decide +kernel
theorem dX11_asks_263 : decode cX11_asks 263 = .ok (.aload_n 0, 1) := by decide +kernel
theorem dX11_asks_264 : decode cX11_asks 264 = .ok (.getfield 138, 3) := by decide +kernel
theorem dX11_asks_267 : decode cX11_asks 267 = .ok (.iload 5, 2) := by decide +kernel
theorem dX11_asks_269 : decode cX11_asks 269 = .ok (.iaload, 1) := by decide +kernel
theorem dX11_asks_270 : decode cX11_asks 270 = .ok (.iastore, 1) := by decide +kernel
theorem dX11_asks_271 : decode cX11_asks 271 = .ok (.aload_n 0, 1) := by decide +kernel
theorem dX11_asks_272 : decode cX11_asks 272 = .ok (.getfield 138, 3) := by decide +kernel
theorem dX11_asks_275 : decode cX11_asks 275 = .ok (.iload 5, 2) := by decide +kernel
theorem dX11_asks_277 : decode cX11_asks 277 = .ok (.aload_n 0, 1) := by decide +kernel
theorem dX11_asks_278 : decode cX11_asks 278 = .ok (.getfield 138, 3) := by decide +kernel
theorem dX11_asks_281 : decode cX11_asks 281 = .ok (.iload 5, 2) := by decide +kernel
theorem dX11_asks_283 : decode cX11_asks 283 = .ok (.iaload, 1) := by decide +kernel
theorem dX11_asks_284 : decode cX11_asks 284 = .ok (.aload_n 0, 1) := by decide +kernel
theorem dX11_asks_285 : decode cX11_asks 285 = .ok (.getfield 135, 3) := by decide +kernel
theorem dX11_asks_288 : decode cX11_asks 288 = .ok (.iload 4, 2) := by decide +kernel
theorem dX11_asks_290 : decode cX11_asks 290 = .ok (.iaload, 1) := by decide +kernel
theorem dX11_asks_291 : decode cX11_asks 291 = .ok (.isub, 1) := by decide +kernel
theorem dX11_asks_292 : decode cX11_asks 292 = .ok (.iastore, 1) := by decide +kernel
theorem dX11_asks_293 : decode cX11_asks 293 = .ok (.iinc 4 (-1), 3) := by decide +kernel
theorem dX11_asks_296 : decode cX11_asks 296 = .ok (.goto (-145), 3) := by decide +kernel
theorem dX11_asks_299 : decode cX11_asks 299 = .ok (.return_, 1) := by decide +kernel
theorem dX11_asked_0 : decode cX11_asked 0 = .ok (.iload_n 1, 1) := by decide +kernel
theorem dX11_asked_1 : decode cX11_asked 1 = .ok (.invokestatic 165, 3) := by decide +kernel
theorem dX11_asked_4 : decode cX11_asked 4 = .ok (.ifCond .eq 22, 3) := by decide +kernel
theorem dX11_asked_7 : decode cX11_asked 7 = .ok (.aload_n 0, 1) := by decide +kernel
theorem dX11_asked_8 : decode cX11_asked 8 = .ok (.iload_n 2, 1) := by decide +kernel
theorem dX11_asked_9 : decode cX11_asked 9 = .ok (.iload_n 3, 1) := by decide +kernel
theorem dX11_asked_10 : decode cX11_asked 10 = .ok (.invokevirtual 188, 3) := by decide +kernel
theorem dX11_asked_13 : decode cX11_asked 13 = .ok (.ifCond .eq 13, 3) := by decide +kernel
theorem dX11_asked_16 : decode cX11_asked 16 = .ok (.iload 4, 2) := by decide +kernel
theorem dX11_asked_18 : decode cX11_asked 18 = .ok (.iconst 0, 1) := by decide +kernel
theorem dX11_asked_19 : decode cX11_asked 19 = .ok (.iconst 1, 1) := by decide +kernel
theorem dX11_asked_20 : decode cX11_asked 20 = .ok (.invokestatic 161, 3) := by decide +kernel
theorem dX11_asked_23 : decode cX11_asked 23 = .ok (.ifCond .ne 5, 3) := by decide +kernel
theorem dX11_asked_26 : decode cX11_asked 26 = .ok (.iconst (-1), 1) := by decide +kernel
theorem dX11_asked_27 : decode cX11_asked 27 = .ok (.ireturn, 1) := by decide +kernel
theorem dX11_asked_28 : decode cX11_asked 28 = .ok (.aload_n 0, 1) := by decide +kernel
theorem dX11_asked_29 : decode cX11_asked 29 = .ok (.iload_n 1, 1) := by decide +kernel
theorem dX11_asked_30 : decode cX11_asked 30 = .ok (.iload_n 2, 1) := by decide +kernel
theorem dX11_asked_31 : decode cX11_asked 31 = .ok (.invokevirtual 356, 3) := by decide +kernel
theorem dX11_asked_34 : decode cX11_asked 34 = .ok (.aload_n 0, 1) := by decide +kernel
theorem dX11_asked_35 : decode cX11_asked 35 = .ok (.getfield 132, 3) := by decide +kernel
theorem dX11_asked_38 : decode cX11_asked 38 = .ok (.iload_n 3, 1) := by decide +kernel
theorem dX11_asked_39 : decode cX11_asked 39 = .ok (.iaload, 1) := by decide +kernel
theorem dX11_asked_40 : decode cX11_asked 40 = .ok (.iconst (-1), 1) := by decide +kernel
theorem dX11_asked_41 : decode cX11_asked 41 = .ok (.if_icmp .ne 8, 3) := by decide +kernel
theorem dX11_asked_44 : decode cX11_asked 44 = .ok (.bipush (-2), 2) := by decide +kernel
theorem dX11_asked_46 : decode cX11_asked 46 = .ok (.goto 23, 3) := by decide +kernel
theorem dX11_asked_49 : decode cX11_asked 49 = .ok (.iload 4, 2) := by decide +kernel
theorem dX11_asked_51 : decode cX11_asked 51 = .ok (.ifCond .ne 12, 3) := by decide +kernel
theorem dX11_asked_54 : decode cX11_asked 54 = .ok (.aload_n 0, 1) := by decide +kernel
theorem dX11_asked_55 : decode cX11_asked 55 = .ok (.getfield 132, 3) := by decide +kernel
theorem dX11_asked_58 : decode cX11_asked 58 = .ok (.iload_n 3, 1) := by decide +kernel
theorem dX11_asked_59 : decode cX11_asked 59 = .ok (.iaload, 1) := by decide +kernel
theorem dX11_asked_60 : decode cX11_asked 60 = .ok (.goto 9, 3) := by decide +kernel
theorem dX11_asked_63 : decode cX11_asked 63 = .ok (.aload_n 0, 1) := by decide +kernel
theorem dX11_asked_64 : decode cX11_asked 64 = .ok (.getfield 135, 3) := by decide +kernel
theorem dX11_asked_67 : decode cX11_asked 67 = .ok (.iload_n 3, 1) := by decide +kernel
theorem dX11_asked_68 : decode cX11_asked 68 = .ok (.iaload, 1) := by decide +kernel
theorem dX11_asked_69 : decode cX11_asked 69 = .ok (.ireturn, 1) := by decide +kernel
theorem dX11_back_0 : decode cX11_back 0 = .ok (.aload_n 0, 1) := by decide +kernel
theorem dX11_back_1 : decode cX11_back 1 = .ok (.iload_n 1, 1) := by decide +kernel
theorem dX11_back_2 : decode cX11_back 2 = .ok (.iload_n 2, 1) := by decide +kernel
theorem dX11_back_3 : decode cX11_back 3 = .ok (.invokevirtual 344, 3) := by decide +kernel
theorem dX11_back_6 : decode cX11_back 6 = .ok (.ifCond .ne 5, 3) := by decide +kernel
theorem dX11_back_9 : decode cX11_back 9 = .ok (.iconst (-1), 1) := by decide +kernel
theorem dX11_back_10 : decode cX11_back 10 = .ok (.ireturn, 1) := by decide +kernel
theorem dX11_back_11 : decode cX11_back 11 = .ok (.aload_n 0, 1) := by decide +kernel
theorem dX11_back_12 : decode cX11_back 12 = .ok (.iload_n 1, 1) := by decide +kernel
theorem dX11_back_13 : decode cX11_back 13 = .ok (.iload_n 2, 1) := by decide +kernel
theorem dX11_back_14 : decode cX11_back 14 = .ok (.invokevirtual 356, 3) := by decide +kernel
theorem dX11_back_17 : decode cX11_back 17 = .ok (.aload_n 0, 1) := by decide +kernel
theorem dX11_back_18 : decode cX11_back 18 = .ok (.getfield 353, 3) := by decide +kernel
theorem dX11_back_21 : decode cX11_back 21 = .ok (.ireturn, 1) := by decide +kernel
theorem dX11_out_0 : decode cX11_out 0 = .ok (.aload_n 0, 1) := by decide +kernel
theorem dX11_out_1 : decode cX11_out 1 = .ok (.iload_n 1, 1) := by decide +kernel
theorem dX11_out_2 : decode cX11_out 2 = .ok (.iload_n 2, 1) := by decide +kernel
theorem dX11_out_3 : decode cX11_out 3 = .ok (.invokevirtual 344, 3) := by decide +kernel
theorem dX11_out_6 : decode cX11_out 6 = .ok (.ifCond .eq 11, 3) := by decide +kernel
theorem dX11_out_9 : decode cX11_out 9 = .ok (.aload_n 0, 1) := by decide +kernel
theorem dX11_out_10 : decode cX11_out 10 = .ok (.iload_n 3, 1) := by decide +kernel
theorem dX11_out_11 : decode cX11_out 11 = .ok (.invokevirtual 169, 3) := by decide +kernel
theorem dX11_out_14 : decode cX11_out 14 = .ok (.ifCond .ne 7, 3) := by decide +kernel
theorem dX11_out_17 : decode cX11_out 17 = .ok (.ldc_w 359, 3) := by decide +kernel
theorem dX11_out_20 : decode cX11_out 20 = .ok (.ireturn, 1) := by decide +kernel
theorem dX11_out_21 : decode cX11_out 21 = .ok (.aload_n 0, 1) := by decide +kernel
theorem dX11_out_22 : decode cX11_out 22 = .ok (.iload_n 1, 1) := by decide +kernel
theorem dX11_out_23 : decode cX11_out 23 = .ok (.iload_n 2, 1) := by decide +kernel
theorem dX11_out_24 : decode cX11_out 24 = .ok (.invokevirtual 356, 3) := by decide +kernel
theorem dX11_out_27 : decode cX11_out 27 = .ok (.iconst 0, 1) := by decide +kernel
theorem dX11_out_28 : decode cX11_out 28 = .ok (.istore 4, 2) := by decide +kernel
theorem dX11_out_30 : decode cX11_out 30 = .ok (.iconst 0, 1) := by decide +kernel
theorem dX11_out_31 : decode cX11_out 31 = .ok (.istore 5, 2) := by decide +kernel
theorem dX11_out_33 : decode cX11_out 33 = .ok (.iload 5, 2) := by decide +kernel
theorem dX11_out_35 : decode cX11_out 35 = .ok (.aload_n 0, 1) := by decide +kernel
theorem dX11_out_36 : decode cX11_out 36 = .ok (.getfield 25, 3) := by decide +kernel
theorem dX11_out_39 : decode cX11_out 39 = .ok (.iload_n 2, 1) := by decide +kernel
theorem dX11_out_40 : decode cX11_out 40 = .ok (.iaload, 1) := by decide +kernel
theorem dX11_out_41 : decode cX11_out 41 = .ok (.if_icmp .ge 76, 3) := by decide +kernel
theorem dX11_out_44 : decode cX11_out 44 = .ok (.aload_n 0, 1) := by decide +kernel
theorem dX11_out_45 : decode cX11_out 45 = .ok (.getfield 40, 3) := by decide +kernel
theorem dX11_out_48 : decode cX11_out 48 = .ok (.bipush 22, 2) := by decide +kernel
theorem dX11_out_50 : decode cX11_out 50 = .ok (.iload_n 2, 1) := by decide +kernel
theorem dX11_out_51 : decode cX11_out 51 = .ok (.imul, 1) := by decide +kernel
theorem dX11_out_52 : decode cX11_out 52 = .ok (.iload 5, 2) := by decide +kernel
theorem dX11_out_54 : decode cX11_out 54 = .ok (.iadd, 1) := by decide +kernel
theorem dX11_out_55 : decode cX11_out 55 = .ok (.iaload, 1) := by decide +kernel
theorem dX11_out_56 : decode cX11_out 56 = .ok (.aload_n 0, 1) := by decide +kernel
theorem dX11_out_57 : decode cX11_out 57 = .ok (.getfield 135, 3) := by decide +kernel
theorem dX11_out_60 : decode cX11_out 60 = .ok (.iload 5, 2) := by decide +kernel
theorem dX11_out_62 : decode cX11_out 62 = .ok (.iaload, 1) := by decide +kernel
theorem dX11_out_63 : decode cX11_out 63 = .ok (.isub, 1) := by decide +kernel
theorem dX11_out_64 : decode cX11_out 64 = .ok (.istore 6, 2) := by decide +kernel
theorem dX11_out_66 : decode cX11_out 66 = .ok (.iload 4, 2) := by decide +kernel
theorem dX11_out_68 : decode cX11_out 68 = .ok (.aload_n 0, 1) := by decide +kernel
theorem dX11_out_69 : decode cX11_out 69 = .ok (.getfield 31, 3) := by decide +kernel
theorem dX11_out_72 : decode cX11_out 72 = .ok (.bipush 22, 2) := by decide +kernel
theorem dX11_out_74 : decode cX11_out 74 = .ok (.iload_n 2, 1) := by decide +kernel
theorem dX11_out_75 : decode cX11_out 75 = .ok (.imul, 1) := by decide +kernel
theorem dX11_out_76 : decode cX11_out 76 = .ok (.iload 5, 2) := by decide +kernel
theorem dX11_out_78 : decode cX11_out 78 = .ok (.iadd, 1) := by decide +kernel
theorem dX11_out_79 : decode cX11_out 79 = .ok (.iaload, 1) := by decide +kernel
theorem dX11_out_80 : decode cX11_out 80 = .ok (.iload_n 3, 1) := by decide +kernel
theorem dX11_out_81 : decode cX11_out 81 = .ok (.if_icmp .ne 8, 3) := by decide +kernel
theorem dX11_out_84 : decode cX11_out 84 = .ok (.iload 6, 2) := by decide +kernel
theorem dX11_out_86 : decode cX11_out 86 = .ok (.goto 4, 3) := by decide +kernel
theorem dX11_out_89 : decode cX11_out 89 = .ok (.iconst 0, 1) := by decide +kernel
theorem dX11_out_90 : decode cX11_out 90 = .ok (.iadd, 1) := by decide +kernel
theorem dX11_out_91 : decode cX11_out 91 = .ok (.aload_n 0, 1) := by decide +kernel
theorem dX11_out_92 : decode cX11_out 92 = .ok (.iload_n 2, 1) := by decide +kernel
theorem dX11_out_93 : decode cX11_out 93 = .ok (.iload 5, 2) := by decide +kernel
theorem dX11_out_95 : decode cX11_out 95 = .ok (.invokevirtual 176, 3) := by decide +kernel
theorem dX11_out_98 : decode cX11_out 98 = .ok (.iload_n 3, 1) := by decide +kernel
theorem dX11_out_99 : decode cX11_out 99 = .ok (.if_icmp .ne 8, 3) := by decide +kernel
theorem dX11_out_102 : decode cX11_out 102 = .ok (.iload 6, 2) := by decide +kernel
theorem dX11_out_104 : decode cX11_out 104 = .ok (.goto 4, 3) := by decide +kernel
theorem dX11_out_107 : decode cX11_out 107 = .ok (.iconst 0, 1) := by decide +kernel
theorem dX11_out_108 : decode cX11_out 108 = .ok (.isub, 1) := by decide +kernel
theorem dX11_out_109 : decode cX11_out 109 = .ok (.istore 4, 2) := by decide +kernel
theorem dX11_out_111 : decode cX11_out 111 = .ok (.iinc 5 1, 3) := by decide +kernel
theorem dX11_out_114 : decode cX11_out 114 = .ok (.goto (-81), 3) := by decide +kernel
theorem dX11_out_117 : decode cX11_out 117 = .ok (.aload_n 0, 1) := by decide +kernel
theorem dX11_out_118 : decode cX11_out 118 = .ok (.getfield 353, 3) := by decide +kernel
theorem dX11_out_121 : decode cX11_out 121 = .ok (.ifCond .le 42, 3) := by decide +kernel
theorem dX11_out_124 : decode cX11_out 124 = .ok (.iload 4, 2) := by decide +kernel
theorem dX11_out_126 : decode cX11_out 126 = .ok (.aload_n 0, 1) := by decide +kernel
theorem dX11_out_127 : decode cX11_out 127 = .ok (.getfield 331, 3) := by decide +kernel
theorem dX11_out_130 : decode cX11_out 130 = .ok (.iload_n 3, 1) := by decide +kernel
theorem dX11_out_131 : decode cX11_out 131 = .ok (.if_icmp .ne 10, 3) := by decide +kernel
theorem dX11_out_134 : decode cX11_out 134 = .ok (.aload_n 0, 1) := by decide +kernel
theorem dX11_out_135 : decode cX11_out 135 = .ok (.getfield 353, 3) := by decide +kernel
theorem dX11_out_138 : decode cX11_out 138 = .ok (.goto 4, 3) := by decide +kernel
theorem dX11_out_141 : decode cX11_out 141 = .ok (.iconst 0, 1) := by decide +kernel
theorem dX11_out_142 : decode cX11_out 142 = .ok (.iadd, 1) := by decide +kernel
theorem dX11_out_143 : decode cX11_out 143 = .ok (.aload_n 0, 1) := by decide +kernel
theorem dX11_out_144 : decode cX11_out 144 = .ok (.iload_n 2, 1) := by decide +kernel
theorem dX11_out_145 : decode cX11_out 145 = .ok (.invokevirtual 191, 3) := by decide +kernel
theorem dX11_out_148 : decode cX11_out 148 = .ok (.iload_n 3, 1) := by decide +kernel
theorem dX11_out_149 : decode cX11_out 149 = .ok (.if_icmp .ne 10, 3) := by decide +kernel
theorem dX11_out_152 : decode cX11_out 152 = .ok (.aload_n 0, 1) := by decide +kernel
theorem dX11_out_153 : decode cX11_out 153 = .ok (.getfield 353, 3) := by decide +kernel
theorem dX11_out_156 : decode cX11_out 156 = .ok (.goto 4, 3) := by decide +kernel
theorem dX11_out_159 : decode cX11_out 159 = .ok (.iconst 0, 1) := by decide +kernel
theorem dX11_out_160 : decode cX11_out 160 = .ok (.isub, 1) := by decide +kernel
theorem dX11_out_161 : decode cX11_out 161 = .ok (.istore 4, 2) := by decide +kernel
theorem dX11_out_163 : decode cX11_out 163 = .ok (.iload 4, 2) := by decide +kernel
theorem dX11_out_165 : decode cX11_out 165 = .ok (.aload_n 0, 1) := by decide +kernel
theorem dX11_out_166 : decode cX11_out 166 = .ok (.getfield 19, 3) := by decide +kernel
theorem dX11_out_169 : decode cX11_out 169 = .ok (.iload_n 2, 1) := by decide +kernel
theorem dX11_out_170 : decode cX11_out 170 = .ok (.iaload, 1) := by decide +kernel
theorem dX11_out_171 : decode cX11_out 171 = .ok (.iload_n 3, 1) := by decide +kernel
theorem dX11_out_172 : decode cX11_out 172 = .ok (.if_icmp .ne 12, 3) := by decide +kernel
theorem dX11_out_175 : decode cX11_out 175 = .ok (.aload_n 0, 1) := by decide +kernel
theorem dX11_out_176 : decode cX11_out 176 = .ok (.getfield 16, 3) := by decide +kernel
theorem dX11_out_179 : decode cX11_out 179 = .ok (.iload_n 2, 1) := by decide +kernel
theorem dX11_out_180 : decode cX11_out 180 = .ok (.iaload, 1) := by decide +kernel
theorem dX11_out_181 : decode cX11_out 181 = .ok (.goto 4, 3) := by decide +kernel
theorem dX11_out_184 : decode cX11_out 184 = .ok (.iconst 0, 1) := by decide +kernel
theorem dX11_out_185 : decode cX11_out 185 = .ok (.iadd, 1) := by decide +kernel
theorem dX11_out_186 : decode cX11_out 186 = .ok (.aload_n 0, 1) := by decide +kernel
theorem dX11_out_187 : decode cX11_out 187 = .ok (.getfield 331, 3) := by decide +kernel
theorem dX11_out_190 : decode cX11_out 190 = .ok (.iload_n 3, 1) := by decide +kernel
theorem dX11_out_191 : decode cX11_out 191 = .ok (.if_icmp .ne 12, 3) := by decide +kernel
theorem dX11_out_194 : decode cX11_out 194 = .ok (.aload_n 0, 1) := by decide +kernel
theorem dX11_out_195 : decode cX11_out 195 = .ok (.getfield 16, 3) := by decide +kernel
theorem dX11_out_198 : decode cX11_out 198 = .ok (.iload_n 2, 1) := by decide +kernel
theorem dX11_out_199 : decode cX11_out 199 = .ok (.iaload, 1) := by decide +kernel
theorem dX11_out_200 : decode cX11_out 200 = .ok (.goto 4, 3) := by decide +kernel
theorem dX11_out_203 : decode cX11_out 203 = .ok (.iconst 0, 1) := by decide +kernel
theorem dX11_out_204 : decode cX11_out 204 = .ok (.isub, 1) := by decide +kernel
theorem dX11_out_205 : decode cX11_out 205 = .ok (.ireturn, 1) := by decide +kernel
theorem dX11_joined_0 : decode cX11_joined 0 = .ok (.aload_n 0, 1) := by decide +kernel
theorem dX11_joined_1 : decode cX11_joined 1 = .ok (.iload_n 1, 1) := by decide +kernel
theorem dX11_joined_2 : decode cX11_joined 2 = .ok (.iload_n 2, 1) := by decide +kernel
theorem dX11_joined_3 : decode cX11_joined 3 = .ok (.invokevirtual 344, 3) := by decide +kernel
theorem dX11_joined_6 : decode cX11_joined 6 = .ok (.ifCond .eq 26, 3) := by decide +kernel
theorem dX11_joined_9 : decode cX11_joined 9 = .ok (.aload_n 0, 1) := by decide +kernel
theorem dX11_joined_10 : decode cX11_joined 10 = .ok (.iload_n 3, 1) := by decide +kernel
theorem dX11_joined_11 : decode cX11_joined 11 = .ok (.invokevirtual 154, 3) := by decide +kernel
theorem dX11_joined_14 : decode cX11_joined 14 = .ok (.ifCond .eq 18, 3) := by decide +kernel
theorem dX11_joined_17 : decode cX11_joined 17 = .ok (.iload_n 2, 1) := by decide +kernel
theorem dX11_joined_18 : decode cX11_joined 18 = .ok (.iload_n 3, 1) := by decide +kernel
theorem dX11_joined_19 : decode cX11_joined 19 = .ok (.if_icmp .eq 13, 3) := by decide +kernel
theorem dX11_joined_22 : decode cX11_joined 22 = .ok (.iload 4, 2) := by decide +kernel
theorem dX11_joined_24 : decode cX11_joined 24 = .ok (.iconst 0, 1) := by decide +kernel
theorem dX11_joined_25 : decode cX11_joined 25 = .ok (.iconst 2, 1) := by decide +kernel
theorem dX11_joined_26 : decode cX11_joined 26 = .ok (.invokestatic 161, 3) := by decide +kernel
theorem dX11_joined_29 : decode cX11_joined 29 = .ok (.ifCond .ne 5, 3) := by decide +kernel
theorem dX11_joined_32 : decode cX11_joined 32 = .ok (.iconst (-1), 1) := by decide +kernel
theorem dX11_joined_33 : decode cX11_joined 33 = .ok (.ireturn, 1) := by decide +kernel
theorem dX11_joined_34 : decode cX11_joined 34 = .ok (.aload_n 0, 1) := by decide +kernel
theorem dX11_joined_35 : decode cX11_joined 35 = .ok (.getfield 16, 3) := by decide +kernel
theorem dX11_joined_38 : decode cX11_joined 38 = .ok (.iload_n 2, 1) := by decide +kernel
theorem dX11_joined_39 : decode cX11_joined 39 = .ok (.iaload, 1) := by decide +kernel
theorem dX11_joined_40 : decode cX11_joined 40 = .ok (.aload_n 0, 1) := by decide +kernel
theorem dX11_joined_41 : decode cX11_joined 41 = .ok (.getfield 16, 3) := by decide +kernel
theorem dX11_joined_44 : decode cX11_joined 44 = .ok (.iload_n 3, 1) := by decide +kernel
theorem dX11_joined_45 : decode cX11_joined 45 = .ok (.iaload, 1) := by decide +kernel
theorem dX11_joined_46 : decode cX11_joined 46 = .ok (.if_icmp .lt 7, 3) := by decide +kernel
theorem dX11_joined_49 : decode cX11_joined 49 = .ok (.iconst 1, 1) := by decide +kernel
theorem dX11_joined_50 : decode cX11_joined 50 = .ok (.goto 4, 3) := by decide +kernel
theorem dX11_joined_53 : decode cX11_joined 53 = .ok (.iconst 0, 1) := by decide +kernel
theorem dX11_joined_54 : decode cX11_joined 54 = .ok (.istore 5, 2) := by decide +kernel
theorem dX11_joined_56 : decode cX11_joined 56 = .ok (.aload_n 0, 1) := by decide +kernel
theorem dX11_joined_57 : decode cX11_joined 57 = .ok (.iload_n 1, 1) := by decide +kernel
theorem dX11_joined_58 : decode cX11_joined 58 = .ok (.iload 5, 2) := by decide +kernel
theorem dX11_joined_60 : decode cX11_joined 60 = .ok (.ifCond .eq 7, 3) := by decide +kernel
theorem dX11_joined_63 : decode cX11_joined 63 = .ok (.iload_n 2, 1) := by decide +kernel
theorem dX11_joined_64 : decode cX11_joined 64 = .ok (.goto 4, 3) := by decide +kernel
theorem dX11_joined_67 : decode cX11_joined 67 = .ok (.iload_n 3, 1) := by decide +kernel
theorem dX11_joined_68 : decode cX11_joined 68 = .ok (.invokevirtual 360, 3) := by decide +kernel
theorem dX11_joined_71 : decode cX11_joined 71 = .ok (.istore 6, 2) := by decide +kernel
theorem dX11_joined_73 : decode cX11_joined 73 = .ok (.aload_n 0, 1) := by decide +kernel
theorem dX11_joined_74 : decode cX11_joined 74 = .ok (.iload_n 1, 1) := by decide +kernel
theorem dX11_joined_75 : decode cX11_joined 75 = .ok (.iload 5, 2) := by decide +kernel
theorem dX11_joined_77 : decode cX11_joined 77 = .ok (.ifCond .eq 7, 3) := by decide +kernel
theorem dX11_joined_80 : decode cX11_joined 80 = .ok (.iload_n 3, 1) := by decide +kernel
theorem dX11_joined_81 : decode cX11_joined 81 = .ok (.goto 4, 3) := by decide +kernel
theorem dX11_joined_84 : decode cX11_joined 84 = .ok (.iload_n 2, 1) := by decide +kernel
theorem dX11_joined_85 : decode cX11_joined 85 = .ok (.invokevirtual 360, 3) := by decide +kernel
theorem dX11_joined_88 : decode cX11_joined 88 = .ok (.istore 7, 2) := by decide +kernel
theorem dX11_joined_90 : decode cX11_joined 90 = .ok (.iload 4, 2) := by decide +kernel
theorem dX11_joined_92 : decode cX11_joined 92 = .ok (.ifCond .ne 6, 3) := by decide +kernel
theorem dX11_joined_95 : decode cX11_joined 95 = .ok (.iload 6, 2) := by decide +kernel
theorem dX11_joined_97 : decode cX11_joined 97 = .ok (.ireturn, 1) := by decide +kernel
theorem dX11_joined_98 : decode cX11_joined 98 = .ok (.iload 6, 2) := by decide +kernel
theorem dX11_joined_100 : decode cX11_joined 100 = .ok (.iload 7, 2) := by decide +kernel
theorem dX11_joined_102 : decode cX11_joined 102 = .ok (.if_icmp .ne 5, 3) := by decide +kernel
theorem dX11_joined_105 : decode cX11_joined 105 = .ok (.iconst (-1), 1) := by decide +kernel
theorem dX11_joined_106 : decode cX11_joined 106 = .ok (.ireturn, 1) := by decide +kernel
theorem dX11_joined_107 : decode cX11_joined 107 = .ok (.iload 4, 2) := by decide +kernel
theorem dX11_joined_109 : decode cX11_joined 109 = .ok (.iconst 1, 1) := by decide +kernel
theorem dX11_joined_110 : decode cX11_joined 110 = .ok (.if_icmp .ne 8, 3) := by decide +kernel
theorem dX11_joined_113 : decode cX11_joined 113 = .ok (.iload 7, 2) := by decide +kernel
theorem dX11_joined_115 : decode cX11_joined 115 = .ok (.goto 18, 3) := by decide +kernel
theorem dX11_joined_118 : decode cX11_joined 118 = .ok (.aload_n 0, 1) := by decide +kernel
theorem dX11_joined_119 : decode cX11_joined 119 = .ok (.getfield 16, 3) := by decide +kernel
theorem dX11_joined_122 : decode cX11_joined 122 = .ok (.iload 5, 2) := by decide +kernel
theorem dX11_joined_124 : decode cX11_joined 124 = .ok (.ifCond .eq 7, 3) := by decide +kernel
theorem dX11_joined_127 : decode cX11_joined 127 = .ok (.iload_n 3, 1) := by decide +kernel
theorem dX11_joined_128 : decode cX11_joined 128 = .ok (.goto 4, 3) := by decide +kernel
theorem dX11_joined_131 : decode cX11_joined 131 = .ok (.iload_n 2, 1) := by decide +kernel
theorem dX11_joined_132 : decode cX11_joined 132 = .ok (.iaload, 1) := by decide +kernel
theorem dX11_joined_133 : decode cX11_joined 133 = .ok (.ireturn, 1) := by decide +kernel
theorem dX11_goes_0 : decode cX11_goes 0 = .ok (.iconst 0, 1) := by decide +kernel
theorem dX11_goes_1 : decode cX11_goes 1 = .ok (.istore_n 2, 1) := by decide +kernel
theorem dX11_goes_2 : decode cX11_goes 2 = .ok (.iload_n 2, 1) := by decide +kernel
theorem dX11_goes_3 : decode cX11_goes 3 = .ok (.bipush 6, 2) := by decide +kernel
theorem dX11_goes_5 : decode cX11_goes 5 = .ok (.if_icmp .ge 25, 3) := by decide +kernel
theorem dX11_goes_8 : decode cX11_goes 8 = .ok (.aload_n 0, 1) := by decide +kernel
theorem dX11_goes_9 : decode cX11_goes 9 = .ok (.getfield 141, 3) := by decide +kernel
theorem dX11_goes_12 : decode cX11_goes 12 = .ok (.iload_n 2, 1) := by decide +kernel
theorem dX11_goes_13 : decode cX11_goes 13 = .ok (.iload_n 2, 1) := by decide +kernel
theorem dX11_goes_14 : decode cX11_goes 14 = .ok (.iload_n 1, 1) := by decide +kernel
theorem dX11_goes_15 : decode cX11_goes 15 = .ok (.if_icmp .ne 7, 3) := by decide +kernel
theorem dX11_goes_18 : decode cX11_goes 18 = .ok (.iconst 0, 1) := by decide +kernel
theorem dX11_goes_19 : decode cX11_goes 19 = .ok (.goto 4, 3) := by decide +kernel
theorem dX11_goes_22 : decode cX11_goes 22 = .ok (.iconst (-1), 1) := by decide +kernel
theorem dX11_goes_23 : decode cX11_goes 23 = .ok (.iastore, 1) := by decide +kernel
theorem dX11_goes_24 : decode cX11_goes 24 = .ok (.iinc 2 1, 3) := by decide +kernel
theorem dX11_goes_27 : decode cX11_goes 27 = .ok (.goto (-25), 3) := by decide +kernel
theorem dX11_goes_30 : decode cX11_goes 30 = .ok (.iconst 0, 1) := by decide +kernel
theorem dX11_goes_31 : decode cX11_goes 31 = .ok (.istore_n 2, 1) := by decide +kernel
theorem dX11_goes_32 : decode cX11_goes 32 = .ok (.iload_n 2, 1) := by decide +kernel
theorem dX11_goes_33 : decode cX11_goes 33 = .ok (.bipush 6, 2) := by decide +kernel
theorem dX11_goes_35 : decode cX11_goes 35 = .ok (.if_icmp .ge 131, 3) := by decide +kernel
theorem dX11_goes_38 : decode cX11_goes 38 = .ok (.iconst 0, 1) := by decide +kernel
theorem dX11_goes_39 : decode cX11_goes 39 = .ok (.istore_n 3, 1) := by decide +kernel
theorem dX11_goes_40 : decode cX11_goes 40 = .ok (.iload_n 3, 1) := by decide +kernel
theorem dX11_goes_41 : decode cX11_goes 41 = .ok (.bipush 6, 2) := by decide +kernel
theorem dX11_goes_43 : decode cX11_goes 43 = .ok (.if_icmp .ge 117, 3) := by decide +kernel
theorem dX11_goes_46 : decode cX11_goes 46 = .ok (.iconst 0, 1) := by decide +kernel
theorem dX11_goes_47 : decode cX11_goes 47 = .ok (.istore 4, 2) := by decide +kernel
theorem dX11_goes_49 : decode cX11_goes 49 = .ok (.iload 4, 2) := by decide +kernel
theorem dX11_goes_51 : decode cX11_goes 51 = .ok (.bipush 6, 2) := by decide +kernel
theorem dX11_goes_53 : decode cX11_goes 53 = .ok (.if_icmp .ge 101, 3) := by decide +kernel
theorem dX11_goes_56 : decode cX11_goes 56 = .ok (.aload_n 0, 1) := by decide +kernel
theorem dX11_goes_57 : decode cX11_goes 57 = .ok (.getfield 141, 3) := by decide +kernel
theorem dX11_goes_60 : decode cX11_goes 60 = .ok (.iload_n 3, 1) := by decide +kernel
theorem dX11_goes_61 : decode cX11_goes 61 = .ok (.iaload, 1) := by decide +kernel
theorem dX11_goes_62 : decode cX11_goes 62 = .ok (.iconst (-1), 1) := by decide +kernel
theorem dX11_goes_63 : decode cX11_goes 63 = .ok (.if_icmp .eq 85, 3) := by decide +kernel
theorem dX11_goes_66 : decode cX11_goes 66 = .ok (.aload_n 0, 1) := by decide +kernel
theorem dX11_goes_67 : decode cX11_goes 67 = .ok (.getfield 55, 3) := by decide +kernel
theorem dX11_goes_70 : decode cX11_goes 70 = .ok (.bipush 6, 2) := by decide +kernel
theorem dX11_goes_72 : decode cX11_goes 72 = .ok (.iload_n 3, 1) := by decide +kernel
theorem dX11_goes_73 : decode cX11_goes 73 = .ok (.imul, 1) := by decide +kernel
theorem dX11_goes_74 : decode cX11_goes 74 = .ok (.iload 4, 2) := by decide +kernel
theorem dX11_goes_76 : decode cX11_goes 76 = .ok (.iadd, 1) := by decide +kernel
theorem dX11_goes_77 : decode cX11_goes 77 = .ok (.iaload, 1) := by decide +kernel
theorem dX11_goes_78 : decode cX11_goes 78 = .ok (.iconst (-1), 1) := by decide +kernel
theorem dX11_goes_79 : decode cX11_goes 79 = .ok (.if_icmp .ne 6, 3) := by decide +kernel
theorem dX11_goes_82 : decode cX11_goes 82 = .ok (.goto 66, 3) := by decide +kernel
theorem dX11_goes_85 : decode cX11_goes 85 = .ok (.aload_n 0, 1) := by decide +kernel
theorem dX11_goes_86 : decode cX11_goes 86 = .ok (.getfield 141, 3) := by decide +kernel
theorem dX11_goes_89 : decode cX11_goes 89 = .ok (.iload_n 3, 1) := by decide +kernel
theorem dX11_goes_90 : decode cX11_goes 90 = .ok (.iaload, 1) := by decide +kernel
theorem dX11_goes_91 : decode cX11_goes 91 = .ok (.aload_n 0, 1) := by decide +kernel
theorem dX11_goes_92 : decode cX11_goes 92 = .ok (.getfield 55, 3) := by decide +kernel
theorem dX11_goes_95 : decode cX11_goes 95 = .ok (.bipush 6, 2) := by decide +kernel
theorem dX11_goes_97 : decode cX11_goes 97 = .ok (.iload_n 3, 1) := by decide +kernel
theorem dX11_goes_98 : decode cX11_goes 98 = .ok (.imul, 1) := by decide +kernel
theorem dX11_goes_99 : decode cX11_goes 99 = .ok (.iload 4, 2) := by decide +kernel
theorem dX11_goes_101 : decode cX11_goes 101 = .ok (.iadd, 1) := by decide +kernel
theorem dX11_goes_102 : decode cX11_goes 102 = .ok (.iaload, 1) := by decide +kernel
theorem dX11_goes_103 : decode cX11_goes 103 = .ok (.iadd, 1) := by decide +kernel
theorem dX11_goes_104 : decode cX11_goes 104 = .ok (.istore 5, 2) := by decide +kernel
theorem dX11_goes_106 : decode cX11_goes 106 = .ok (.aload_n 0, 1) := by decide +kernel
theorem dX11_goes_107 : decode cX11_goes 107 = .ok (.getfield 141, 3) := by decide +kernel
theorem dX11_goes_110 : decode cX11_goes 110 = .ok (.iload 4, 2) := by decide +kernel
theorem dX11_goes_112 : decode cX11_goes 112 = .ok (.aload_n 0, 1) := by decide +kernel
theorem dX11_goes_113 : decode cX11_goes 113 = .ok (.getfield 141, 3) := by decide +kernel
theorem dX11_goes_116 : decode cX11_goes 116 = .ok (.iload 4, 2) := by decide +kernel
theorem dX11_goes_118 : decode cX11_goes 118 = .ok (.iaload, 1) := by decide +kernel
theorem dX11_goes_119 : decode cX11_goes 119 = .ok (.iconst (-1), 1) := by decide +kernel
theorem dX11_goes_120 : decode cX11_goes 120 = .ok (.if_icmp .eq 15, 3) := by decide +kernel
theorem dX11_goes_123 : decode cX11_goes 123 = .ok (.iload 5, 2) := by decide +kernel
theorem dX11_goes_125 : decode cX11_goes 125 = .ok (.aload_n 0, 1) := by decide +kernel
theorem dX11_goes_126 : decode cX11_goes 126 = .ok (.getfield 141, 3) := by decide +kernel
theorem dX11_goes_129 : decode cX11_goes 129 = .ok (.iload 4, 2) := by decide +kernel
theorem dX11_goes_131 : decode cX11_goes 131 = .ok (.iaload, 1) := by decide +kernel
theorem dX11_goes_132 : decode cX11_goes 132 = .ok (.if_icmp .ge 8, 3) := by decide +kernel
theorem dX11_goes_135 : decode cX11_goes 135 = .ok (.iload 5, 2) := by decide +kernel
theorem dX11_goes_137 : decode cX11_goes 137 = .ok (.goto 10, 3) := by decide +kernel
theorem dX11_goes_140 : decode cX11_goes 140 = .ok (.aload_n 0, 1) := by decide +kernel
theorem dX11_goes_141 : decode cX11_goes 141 = .ok (.getfield 141, 3) := by decide +kernel
theorem dX11_goes_144 : decode cX11_goes 144 = .ok (.iload 4, 2) := by decide +kernel
theorem dX11_goes_146 : decode cX11_goes 146 = .ok (.iaload, 1) := by decide +kernel
theorem dX11_goes_147 : decode cX11_goes 147 = .ok (.iastore, 1) := by decide +kernel
theorem dX11_goes_148 : decode cX11_goes 148 = .ok (.iinc 4 1, 3) := by decide +kernel
theorem dX11_goes_151 : decode cX11_goes 151 = .ok (.goto (-102), 3) := by decide +kernel
theorem dX11_goes_154 : decode cX11_goes 154 = .ok (.iinc 3 1, 3) := by decide +kernel
theorem dX11_goes_157 : decode cX11_goes 157 = .ok (.goto (-117), 3) := by decide +kernel
theorem dX11_goes_160 : decode cX11_goes 160 = .ok (.iinc 2 1, 3) := by decide +kernel
theorem dX11_goes_163 : decode cX11_goes 163 = .ok (.goto (-131), 3) := by decide +kernel
theorem dX11_goes_166 : decode cX11_goes 166 = .ok (.return_, 1) := by decide +kernel
theorem dX11_makes_0 : decode cX11_makes 0 = .ok (.aload_n 0, 1) := by decide +kernel
theorem dX11_makes_1 : decode cX11_makes 1 = .ok (.getfield 25, 3) := by decide +kernel
theorem dX11_makes_4 : decode cX11_makes 4 = .ok (.iload_n 2, 1) := by decide +kernel
theorem dX11_makes_5 : decode cX11_makes 5 = .ok (.iaload, 1) := by decide +kernel
theorem dX11_makes_6 : decode cX11_makes 6 = .ok (.istore 7, 2) := by decide +kernel
theorem dX11_makes_8 : decode cX11_makes 8 = .ok (.aload_n 0, 1) := by decide +kernel
theorem dX11_makes_9 : decode cX11_makes 9 = .ok (.bipush 22, 2) := by decide +kernel
theorem dX11_makes_11 : decode cX11_makes 11 = .ok (.iload_n 2, 1) := by decide +kernel
theorem dX11_makes_12 : decode cX11_makes 12 = .ok (.imul, 1) := by decide +kernel
theorem dX11_makes_13 : decode cX11_makes 13 = .ok (.iload 7, 2) := by decide +kernel
theorem dX11_makes_15 : decode cX11_makes 15 = .ok (.iadd, 1) := by decide +kernel
theorem dX11_makes_16 : decode cX11_makes 16 = .ok (.iconst 5, 1) := by decide +kernel
theorem dX11_makes_17 : decode cX11_makes 17 = .ok (.iload 4, 2) := by decide +kernel
theorem dX11_makes_19 : decode cX11_makes 19 = .ok (.iload_n 3, 1) := by decide +kernel
theorem dX11_makes_20 : decode cX11_makes 20 = .ok (.aload_n 0, 1) := by decide +kernel
theorem dX11_makes_21 : decode cX11_makes 21 = .ok (.getfield 158, 3) := by decide +kernel
theorem dX11_makes_24 : decode cX11_makes 24 = .ok (.iconst 0, 1) := by decide +kernel
theorem dX11_makes_25 : decode cX11_makes 25 = .ok (.iconst 0, 1) := by decide +kernel
theorem dX11_makes_26 : decode cX11_makes 26 = .ok (.iconst 0, 1) := by decide +kernel
theorem dX11_makes_27 : decode cX11_makes 27 = .ok (.iconst 0, 1) := by decide +kernel
theorem dX11_makes_28 : decode cX11_makes 28 = .ok (.invokevirtual 184, 3) := by decide +kernel
theorem dX11_makes_31 : decode cX11_makes 31 = .ok (.aload_n 0, 1) := by decide +kernel
theorem dX11_makes_32 : decode cX11_makes 32 = .ok (.bipush 22, 2) := by decide +kernel
theorem dX11_makes_34 : decode cX11_makes 34 = .ok (.iload_n 2, 1) := by decide +kernel
theorem dX11_makes_35 : decode cX11_makes 35 = .ok (.imul, 1) := by decide +kernel
theorem dX11_makes_36 : decode cX11_makes 36 = .ok (.iload 7, 2) := by decide +kernel
theorem dX11_makes_38 : decode cX11_makes 38 = .ok (.iadd, 1) := by decide +kernel
theorem dX11_makes_39 : decode cX11_makes 39 = .ok (.iconst 1, 1) := by decide +kernel
theorem dX11_makes_40 : decode cX11_makes 40 = .ok (.iadd, 1) := by decide +kernel
theorem dX11_makes_41 : decode cX11_makes 41 = .ok (.iconst 0, 1) := by decide +kernel
theorem dX11_makes_42 : decode cX11_makes 42 = .ok (.iload 5, 2) := by decide +kernel
theorem dX11_makes_44 : decode cX11_makes 44 = .ok (.iload 6, 2) := by decide +kernel
theorem dX11_makes_46 : decode cX11_makes 46 = .ok (.aload_n 0, 1) := by decide +kernel
theorem dX11_makes_47 : decode cX11_makes 47 = .ok (.getfield 158, 3) := by decide +kernel
theorem dX11_makes_50 : decode cX11_makes 50 = .ok (.aload_n 0, 1) := by decide +kernel
theorem dX11_makes_51 : decode cX11_makes 51 = .ok (.getfield 16, 3) := by decide +kernel
theorem dX11_makes_54 : decode cX11_makes 54 = .ok (.iload_n 2, 1) := by decide +kernel
theorem dX11_makes_55 : decode cX11_makes 55 = .ok (.iaload, 1) := by decide +kernel
theorem dX11_makes_56 : decode cX11_makes 56 = .ok (.iconst 3, 1) := by decide +kernel
theorem dX11_makes_57 : decode cX11_makes 57 = .ok (.iconst 0, 1) := by decide +kernel
theorem dX11_makes_58 : decode cX11_makes 58 = .ok (.iconst 0, 1) := by decide +kernel
theorem dX11_makes_59 : decode cX11_makes 59 = .ok (.invokevirtual 184, 3) := by decide +kernel
theorem dX11_makes_62 : decode cX11_makes 62 = .ok (.aload_n 0, 1) := by decide +kernel
theorem dX11_makes_63 : decode cX11_makes 63 = .ok (.iload_n 2, 1) := by decide +kernel
theorem dX11_makes_64 : decode cX11_makes 64 = .ok (.invokevirtual 334, 3) := by decide +kernel
theorem dX11_makes_67 : decode cX11_makes 67 = .ok (.aload_n 0, 1) := by decide +kernel
theorem dX11_makes_68 : decode cX11_makes 68 = .ok (.getfield 98, 3) := by decide +kernel
theorem dX11_makes_71 : decode cX11_makes 71 = .ok (.iload 7, 2) := by decide +kernel
theorem dX11_makes_73 : decode cX11_makes 73 = .ok (.iconst 0, 1) := by decide +kernel
theorem dX11_makes_74 : decode cX11_makes 74 = .ok (.iastore, 1) := by decide +kernel
theorem dX11_makes_75 : decode cX11_makes 75 = .ok (.aload_n 0, 1) := by decide +kernel
theorem dX11_makes_76 : decode cX11_makes 76 = .ok (.getfield 98, 3) := by decide +kernel
theorem dX11_makes_79 : decode cX11_makes 79 = .ok (.iload 7, 2) := by decide +kernel
theorem dX11_makes_81 : decode cX11_makes 81 = .ok (.iconst 1, 1) := by decide +kernel
theorem dX11_makes_82 : decode cX11_makes 82 = .ok (.iadd, 1) := by decide +kernel
theorem dX11_makes_83 : decode cX11_makes 83 = .ok (.iconst 0, 1) := by decide +kernel
theorem dX11_makes_84 : decode cX11_makes 84 = .ok (.iastore, 1) := by decide +kernel
theorem dX11_makes_85 : decode cX11_makes 85 = .ok (.aload_n 0, 1) := by decide +kernel
theorem dX11_makes_86 : decode cX11_makes 86 = .ok (.iload_n 1, 1) := by decide +kernel
theorem dX11_makes_87 : decode cX11_makes 87 = .ok (.iload_n 2, 1) := by decide +kernel
theorem dX11_makes_88 : decode cX11_makes 88 = .ok (.iload 7, 2) := by decide +kernel
theorem dX11_makes_90 : decode cX11_makes 90 = .ok (.iconst 2, 1) := by decide +kernel
theorem dX11_makes_91 : decode cX11_makes 91 = .ok (.iadd, 1) := by decide +kernel
theorem dX11_makes_92 : decode cX11_makes 92 = .ok (.invokevirtual 337, 3) := by decide +kernel
theorem dX11_makes_95 : decode cX11_makes 95 = .ok (.aload_n 0, 1) := by decide +kernel
theorem dX11_makes_96 : decode cX11_makes 96 = .ok (.getfield 331, 3) := by decide +kernel
theorem dX11_makes_99 : decode cX11_makes 99 = .ok (.iload 5, 2) := by decide +kernel
theorem dX11_makes_101 : decode cX11_makes 101 = .ok (.if_icmp .ne 7, 3) := by decide +kernel
theorem dX11_makes_104 : decode cX11_makes 104 = .ok (.iconst 1, 1) := by decide +kernel
theorem dX11_makes_105 : decode cX11_makes 105 = .ok (.goto 4, 3) := by decide +kernel
theorem dX11_makes_108 : decode cX11_makes 108 = .ok (.iconst 0, 1) := by decide +kernel
theorem dX11_makes_109 : decode cX11_makes 109 = .ok (.ireturn, 1) := by decide +kernel
theorem dX11_canSteal_0 : decode cX11_canSteal 0 = .ok (.aload_n 0, 1) := by decide +kernel
theorem dX11_canSteal_1 : decode cX11_canSteal 1 = .ok (.iload_n 1, 1) := by decide +kernel
theorem dX11_canSteal_2 : decode cX11_canSteal 2 = .ok (.iload_n 3, 1) := by decide +kernel
theorem dX11_canSteal_3 : decode cX11_canSteal 3 = .ok (.invokevirtual 344, 3) := by decide +kernel
theorem dX11_canSteal_6 : decode cX11_canSteal 6 = .ok (.ifCond .eq 71, 3) := by decide +kernel
theorem dX11_canSteal_9 : decode cX11_canSteal 9 = .ok (.iload_n 2, 1) := by decide +kernel
theorem dX11_canSteal_10 : decode cX11_canSteal 10 = .ok (.invokestatic 165, 3) := by decide +kernel
theorem dX11_canSteal_13 : decode cX11_canSteal 13 = .ok (.ifCond .eq 64, 3) := by decide +kernel
theorem dX11_canSteal_16 : decode cX11_canSteal 16 = .ok (.aload_n 0, 1) := by decide +kernel
theorem dX11_canSteal_17 : decode cX11_canSteal 17 = .ok (.iload 4, 2) := by decide +kernel
theorem dX11_canSteal_19 : decode cX11_canSteal 19 = .ok (.invokevirtual 169, 3) := by decide +kernel
theorem dX11_canSteal_22 : decode cX11_canSteal 22 = .ok (.ifCond .eq 55, 3) := by decide +kernel
theorem dX11_canSteal_25 : decode cX11_canSteal 25 = .ok (.aload_n 0, 1) := by decide +kernel
theorem dX11_canSteal_26 : decode cX11_canSteal 26 = .ok (.iload 5, 2) := by decide +kernel
theorem dX11_canSteal_28 : decode cX11_canSteal 28 = .ok (.invokevirtual 169, 3) := by decide +kernel
theorem dX11_canSteal_31 : decode cX11_canSteal 31 = .ok (.ifCond .eq 46, 3) := by decide +kernel
theorem dX11_canSteal_34 : decode cX11_canSteal 34 = .ok (.aload_n 0, 1) := by decide +kernel
theorem dX11_canSteal_35 : decode cX11_canSteal 35 = .ok (.getfield 25, 3) := by decide +kernel
theorem dX11_canSteal_38 : decode cX11_canSteal 38 = .ok (.iload_n 3, 1) := by decide +kernel
theorem dX11_canSteal_39 : decode cX11_canSteal 39 = .ok (.iaload, 1) := by decide +kernel
theorem dX11_canSteal_40 : decode cX11_canSteal 40 = .ok (.bipush 18, 2) := by decide +kernel
theorem dX11_canSteal_42 : decode cX11_canSteal 42 = .ok (.if_icmp .gt 35, 3) := by decide +kernel
theorem dX11_canSteal_45 : decode cX11_canSteal 45 = .ok (.iload 4, 2) := by decide +kernel
theorem dX11_canSteal_47 : decode cX11_canSteal 47 = .ok (.aload_n 0, 1) := by decide +kernel
theorem dX11_canSteal_48 : decode cX11_canSteal 48 = .ok (.iload_n 3, 1) := by decide +kernel
theorem dX11_canSteal_49 : decode cX11_canSteal 49 = .ok (.invokevirtual 191, 3) := by decide +kernel
theorem dX11_canSteal_52 : decode cX11_canSteal 52 = .ok (.if_icmp .eq 25, 3) := by decide +kernel
theorem dX11_canSteal_55 : decode cX11_canSteal 55 = .ok (.iload 5, 2) := by decide +kernel
theorem dX11_canSteal_57 : decode cX11_canSteal 57 = .ok (.iload 4, 2) := by decide +kernel
theorem dX11_canSteal_59 : decode cX11_canSteal 59 = .ok (.if_icmp .eq 18, 3) := by decide +kernel
theorem dX11_canSteal_62 : decode cX11_canSteal 62 = .ok (.iload 5, 2) := by decide +kernel
theorem dX11_canSteal_64 : decode cX11_canSteal 64 = .ok (.aload_n 0, 1) := by decide +kernel
theorem dX11_canSteal_65 : decode cX11_canSteal 65 = .ok (.iload_n 1, 1) := by decide +kernel
theorem dX11_canSteal_66 : decode cX11_canSteal 66 = .ok (.iload_n 3, 1) := by decide +kernel
theorem dX11_canSteal_67 : decode cX11_canSteal 67 = .ok (.invokevirtual 360, 3) := by decide +kernel
theorem dX11_canSteal_70 : decode cX11_canSteal 70 = .ok (.if_icmp .eq 7, 3) := by decide +kernel
theorem dX11_canSteal_73 : decode cX11_canSteal 73 = .ok (.iconst 1, 1) := by decide +kernel
theorem dX11_canSteal_74 : decode cX11_canSteal 74 = .ok (.goto 4, 3) := by decide +kernel
theorem dX11_canSteal_77 : decode cX11_canSteal 77 = .ok (.iconst 0, 1) := by decide +kernel
theorem dX11_canSteal_78 : decode cX11_canSteal 78 = .ok (.ireturn, 1) := by decide +kernel
theorem dX11_cheapest_0 : decode cX11_cheapest 0 = .ok (.aload_n 0, 1) := by decide +kernel
theorem dX11_cheapest_1 : decode cX11_cheapest 1 = .ok (.iload_n 1, 1) := by decide +kernel
theorem dX11_cheapest_2 : decode cX11_cheapest 2 = .ok (.iload_n 2, 1) := by decide +kernel
theorem dX11_cheapest_3 : decode cX11_cheapest 3 = .ok (.iload_n 3, 1) := by decide +kernel
theorem dX11_cheapest_4 : decode cX11_cheapest 4 = .ok (.iload 4, 2) := by decide +kernel
theorem dX11_cheapest_6 : decode cX11_cheapest 6 = .ok (.iload 5, 2) := by decide +kernel
theorem dX11_cheapest_8 : decode cX11_cheapest 8 = .ok (.invokevirtual 363, 3) := by decide +kernel
theorem dX11_cheapest_11 : decode cX11_cheapest 11 = .ok (.ifCond .eq 13, 3) := by decide +kernel
theorem dX11_cheapest_14 : decode cX11_cheapest 14 = .ok (.iload 6, 2) := by decide +kernel
theorem dX11_cheapest_16 : decode cX11_cheapest 16 = .ok (.iconst 0, 1) := by decide +kernel
theorem dX11_cheapest_17 : decode cX11_cheapest 17 = .ok (.iconst 1, 1) := by decide +kernel
theorem dX11_cheapest_18 : decode cX11_cheapest 18 = .ok (.invokestatic 161, 3) := by decide +kernel
theorem dX11_cheapest_21 : decode cX11_cheapest 21 = .ok (.ifCond .ne 5, 3) := by decide +kernel
theorem dX11_cheapest_24 : decode cX11_cheapest 24 = .ok (.iconst (-1), 1) := by decide +kernel
theorem dX11_cheapest_25 : decode cX11_cheapest 25 = .ok (.ireturn, 1) := by decide +kernel
theorem dX11_cheapest_26 : decode cX11_cheapest 26 = .ok (.aload_n 0, 1) := by decide +kernel
theorem dX11_cheapest_27 : decode cX11_cheapest 27 = .ok (.iload_n 2, 1) := by decide +kernel
theorem dX11_cheapest_28 : decode cX11_cheapest 28 = .ok (.invokevirtual 367, 3) := by decide +kernel
theorem dX11_cheapest_31 : decode cX11_cheapest 31 = .ok (.iconst (-1), 1) := by decide +kernel
theorem dX11_cheapest_32 : decode cX11_cheapest 32 = .ok (.istore 7, 2) := by decide +kernel
theorem dX11_cheapest_34 : decode cX11_cheapest 34 = .ok (.iconst 0, 1) := by decide +kernel
theorem dX11_cheapest_35 : decode cX11_cheapest 35 = .ok (.istore 8, 2) := by decide +kernel
theorem dX11_cheapest_37 : decode cX11_cheapest 37 = .ok (.iload 8, 2) := by decide +kernel
theorem dX11_cheapest_39 : decode cX11_cheapest 39 = .ok (.bipush 6, 2) := by decide +kernel
theorem dX11_cheapest_41 : decode cX11_cheapest 41 = .ok (.if_icmp .ge 63, 3) := by decide +kernel
theorem dX11_cheapest_44 : decode cX11_cheapest 44 = .ok (.aload_n 0, 1) := by decide +kernel
theorem dX11_cheapest_45 : decode cX11_cheapest 45 = .ok (.getfield 141, 3) := by decide +kernel
theorem dX11_cheapest_48 : decode cX11_cheapest 48 = .ok (.iload 8, 2) := by decide +kernel
theorem dX11_cheapest_50 : decode cX11_cheapest 50 = .ok (.iaload, 1) := by decide +kernel
theorem dX11_cheapest_51 : decode cX11_cheapest 51 = .ok (.iconst (-1), 1) := by decide +kernel
theorem dX11_cheapest_52 : decode cX11_cheapest 52 = .ok (.if_icmp .eq 46, 3) := by decide +kernel
theorem dX11_cheapest_55 : decode cX11_cheapest 55 = .ok (.iload 7, 2) := by decide +kernel
theorem dX11_cheapest_57 : decode cX11_cheapest 57 = .ok (.iconst (-1), 1) := by decide +kernel
theorem dX11_cheapest_58 : decode cX11_cheapest 58 = .ok (.if_icmp .eq 20, 3) := by decide +kernel
theorem dX11_cheapest_61 : decode cX11_cheapest 61 = .ok (.aload_n 0, 1) := by decide +kernel
theorem dX11_cheapest_62 : decode cX11_cheapest 62 = .ok (.getfield 141, 3) := by decide +kernel
theorem dX11_cheapest_65 : decode cX11_cheapest 65 = .ok (.iload 8, 2) := by decide +kernel
theorem dX11_cheapest_67 : decode cX11_cheapest 67 = .ok (.iaload, 1) := by decide +kernel
theorem dX11_cheapest_68 : decode cX11_cheapest 68 = .ok (.aload_n 0, 1) := by decide +kernel
theorem dX11_cheapest_69 : decode cX11_cheapest 69 = .ok (.getfield 141, 3) := by decide +kernel
theorem dX11_cheapest_72 : decode cX11_cheapest 72 = .ok (.iload 7, 2) := by decide +kernel
theorem dX11_cheapest_74 : decode cX11_cheapest 74 = .ok (.iaload, 1) := by decide +kernel
theorem dX11_cheapest_75 : decode cX11_cheapest 75 = .ok (.if_icmp .ge 23, 3) := by decide +kernel
theorem dX11_cheapest_78 : decode cX11_cheapest 78 = .ok (.aload_n 0, 1) := by decide +kernel
theorem dX11_cheapest_79 : decode cX11_cheapest 79 = .ok (.iload_n 1, 1) := by decide +kernel
theorem dX11_cheapest_80 : decode cX11_cheapest 80 = .ok (.iload_n 3, 1) := by decide +kernel
theorem dX11_cheapest_81 : decode cX11_cheapest 81 = .ok (.iload_n 2, 1) := by decide +kernel
theorem dX11_cheapest_82 : decode cX11_cheapest 82 = .ok (.iload 4, 2) := by decide +kernel
theorem dX11_cheapest_84 : decode cX11_cheapest 84 = .ok (.iload 5, 2) := by decide +kernel
theorem dX11_cheapest_86 : decode cX11_cheapest 86 = .ok (.iload 8, 2) := by decide +kernel
theorem dX11_cheapest_88 : decode cX11_cheapest 88 = .ok (.invokevirtual 370, 3) := by decide +kernel
theorem dX11_cheapest_91 : decode cX11_cheapest 91 = .ok (.ifCond .eq 7, 3) := by decide +kernel
theorem dX11_cheapest_94 : decode cX11_cheapest 94 = .ok (.iload 8, 2) := by decide +kernel
theorem dX11_cheapest_96 : decode cX11_cheapest 96 = .ok (.istore 7, 2) := by decide +kernel
theorem dX11_cheapest_98 : decode cX11_cheapest 98 = .ok (.iinc 8 1, 3) := by decide +kernel
theorem dX11_cheapest_101 : decode cX11_cheapest 101 = .ok (.goto (-64), 3) := by decide +kernel
theorem dX11_cheapest_104 : decode cX11_cheapest 104 = .ok (.iload 7, 2) := by decide +kernel
theorem dX11_cheapest_106 : decode cX11_cheapest 106 = .ok (.iconst (-1), 1) := by decide +kernel
theorem dX11_cheapest_107 : decode cX11_cheapest 107 = .ok (.if_icmp .ne 8, 3) := by decide +kernel
theorem dX11_cheapest_110 : decode cX11_cheapest 110 = .ok (.bipush (-2), 2) := by decide +kernel
theorem dX11_cheapest_112 : decode cX11_cheapest 112 = .ok (.goto 20, 3) := by decide +kernel
theorem dX11_cheapest_115 : decode cX11_cheapest 115 = .ok (.iload 6, 2) := by decide +kernel
theorem dX11_cheapest_117 : decode cX11_cheapest 117 = .ok (.ifCond .ne 8, 3) := by decide +kernel
theorem dX11_cheapest_120 : decode cX11_cheapest 120 = .ok (.iload 7, 2) := by decide +kernel
theorem dX11_cheapest_122 : decode cX11_cheapest 122 = .ok (.goto 10, 3) := by decide +kernel
theorem dX11_cheapest_125 : decode cX11_cheapest 125 = .ok (.aload_n 0, 1) := by decide +kernel
theorem dX11_cheapest_126 : decode cX11_cheapest 126 = .ok (.getfield 141, 3) := by decide +kernel
theorem dX11_cheapest_129 : decode cX11_cheapest 129 = .ok (.iload 7, 2) := by decide +kernel
theorem dX11_cheapest_131 : decode cX11_cheapest 131 = .ok (.iaload, 1) := by decide +kernel
theorem dX11_cheapest_132 : decode cX11_cheapest 132 = .ok (.ireturn, 1) := by decide +kernel
theorem dX11_isStopped_0 : decode cX11_isStopped 0 = .ok (.iconst 0, 1) := by decide +kernel
theorem dX11_isStopped_1 : decode cX11_isStopped 1 = .ok (.istore 7, 2) := by decide +kernel
theorem dX11_isStopped_3 : decode cX11_isStopped 3 = .ok (.iload 7, 2) := by decide +kernel
theorem dX11_isStopped_5 : decode cX11_isStopped 5 = .ok (.aload_n 0, 1) := by decide +kernel
theorem dX11_isStopped_6 : decode cX11_isStopped 6 = .ok (.getfield 151, 3) := by decide +kernel
theorem dX11_isStopped_9 : decode cX11_isStopped 9 = .ok (.if_icmp .ge 45, 3) := by decide +kernel
theorem dX11_isStopped_12 : decode cX11_isStopped 12 = .ok (.aload_n 0, 1) := by decide +kernel
theorem dX11_isStopped_13 : decode cX11_isStopped 13 = .ok (.iload 7, 2) := by decide +kernel
theorem dX11_isStopped_15 : decode cX11_isStopped 15 = .ok (.invokevirtual 334, 3) := by decide +kernel
theorem dX11_isStopped_18 : decode cX11_isStopped 18 = .ok (.aload_n 0, 1) := by decide +kernel
theorem dX11_isStopped_19 : decode cX11_isStopped 19 = .ok (.iload_n 1, 1) := by decide +kernel
theorem dX11_isStopped_20 : decode cX11_isStopped 20 = .ok (.iload 7, 2) := by decide +kernel
theorem dX11_isStopped_22 : decode cX11_isStopped 22 = .ok (.aload_n 0, 1) := by decide +kernel
theorem dX11_isStopped_23 : decode cX11_isStopped 23 = .ok (.getfield 25, 3) := by decide +kernel
theorem dX11_isStopped_26 : decode cX11_isStopped 26 = .ok (.iload 7, 2) := by decide +kernel
theorem dX11_isStopped_28 : decode cX11_isStopped 28 = .ok (.iaload, 1) := by decide +kernel
theorem dX11_isStopped_29 : decode cX11_isStopped 29 = .ok (.invokevirtual 337, 3) := by decide +kernel
theorem dX11_isStopped_32 : decode cX11_isStopped 32 = .ok (.aload_n 0, 1) := by decide +kernel
theorem dX11_isStopped_33 : decode cX11_isStopped 33 = .ok (.getfield 331, 3) := by decide +kernel
theorem dX11_isStopped_36 : decode cX11_isStopped 36 = .ok (.aload_n 0, 1) := by decide +kernel
theorem dX11_isStopped_37 : decode cX11_isStopped 37 = .ok (.getfield 144, 3) := by decide +kernel
theorem dX11_isStopped_40 : decode cX11_isStopped 40 = .ok (.iload 7, 2) := by decide +kernel
theorem dX11_isStopped_42 : decode cX11_isStopped 42 = .ok (.iaload, 1) := by decide +kernel
theorem dX11_isStopped_43 : decode cX11_isStopped 43 = .ok (.if_icmp .eq 5, 3) := by decide +kernel
theorem dX11_isStopped_46 : decode cX11_isStopped 46 = .ok (.iconst 0, 1) := by decide +kernel
theorem dX11_isStopped_47 : decode cX11_isStopped 47 = .ok (.ireturn, 1) := by decide +kernel
theorem dX11_isStopped_48 : decode cX11_isStopped 48 = .ok (.iinc 7 1, 3) := by decide +kernel
theorem dX11_isStopped_51 : decode cX11_isStopped 51 = .ok (.goto (-48), 3) := by decide +kernel
theorem dX11_isStopped_54 : decode cX11_isStopped 54 = .ok (.iconst 0, 1) := by decide +kernel
theorem dX11_isStopped_55 : decode cX11_isStopped 55 = .ok (.istore 7, 2) := by decide +kernel
theorem dX11_isStopped_57 : decode cX11_isStopped 57 = .ok (.iload 7, 2) := by decide +kernel
theorem dX11_isStopped_59 : decode cX11_isStopped 59 = .ok (.bipush 6, 2) := by decide +kernel
theorem dX11_isStopped_61 : decode cX11_isStopped 61 = .ok (.if_icmp .ge 50, 3) := by decide +kernel
theorem dX11_isStopped_64 : decode cX11_isStopped 64 = .ok (.aload_n 0, 1) := by decide +kernel
theorem dX11_isStopped_65 : decode cX11_isStopped 65 = .ok (.getfield 141, 3) := by decide +kernel
theorem dX11_isStopped_68 : decode cX11_isStopped 68 = .ok (.iload 7, 2) := by decide +kernel
theorem dX11_isStopped_70 : decode cX11_isStopped 70 = .ok (.iaload, 1) := by decide +kernel
theorem dX11_isStopped_71 : decode cX11_isStopped 71 = .ok (.iconst (-1), 1) := by decide +kernel
theorem dX11_isStopped_72 : decode cX11_isStopped 72 = .ok (.if_icmp .eq 33, 3) := by decide +kernel
theorem dX11_isStopped_75 : decode cX11_isStopped 75 = .ok (.aload_n 0, 1) := by decide +kernel
theorem dX11_isStopped_76 : decode cX11_isStopped 76 = .ok (.getfield 141, 3) := by decide +kernel
theorem dX11_isStopped_79 : decode cX11_isStopped 79 = .ok (.iload 7, 2) := by decide +kernel
theorem dX11_isStopped_81 : decode cX11_isStopped 81 = .ok (.iaload, 1) := by decide +kernel
theorem dX11_isStopped_82 : decode cX11_isStopped 82 = .ok (.iload 6, 2) := by decide +kernel
theorem dX11_isStopped_84 : decode cX11_isStopped 84 = .ok (.if_icmp .gt 21, 3) := by decide +kernel
theorem dX11_isStopped_87 : decode cX11_isStopped 87 = .ok (.aload_n 0, 1) := by decide +kernel
theorem dX11_isStopped_88 : decode cX11_isStopped 88 = .ok (.iload_n 1, 1) := by decide +kernel
theorem dX11_isStopped_89 : decode cX11_isStopped 89 = .ok (.iload_n 3, 1) := by decide +kernel
theorem dX11_isStopped_90 : decode cX11_isStopped 90 = .ok (.iload_n 2, 1) := by decide +kernel
theorem dX11_isStopped_91 : decode cX11_isStopped 91 = .ok (.iload 4, 2) := by decide +kernel
theorem dX11_isStopped_93 : decode cX11_isStopped 93 = .ok (.iload 5, 2) := by decide +kernel
theorem dX11_isStopped_95 : decode cX11_isStopped 95 = .ok (.iload 7, 2) := by decide +kernel
theorem dX11_isStopped_97 : decode cX11_isStopped 97 = .ok (.invokevirtual 370, 3) := by decide +kernel
theorem dX11_isStopped_100 : decode cX11_isStopped 100 = .ok (.ifCond .eq 5, 3) := by decide +kernel
theorem dX11_isStopped_103 : decode cX11_isStopped 103 = .ok (.iconst 0, 1) := by decide +kernel
theorem dX11_isStopped_104 : decode cX11_isStopped 104 = .ok (.ireturn, 1) := by decide +kernel
theorem dX11_isStopped_105 : decode cX11_isStopped 105 = .ok (.iinc 7 1, 3) := by decide +kernel
theorem dX11_isStopped_108 : decode cX11_isStopped 108 = .ok (.goto (-51), 3) := by decide +kernel
theorem dX11_isStopped_111 : decode cX11_isStopped 111 = .ok (.iconst 1, 1) := by decide +kernel
theorem dX11_isStopped_112 : decode cX11_isStopped 112 = .ok (.ireturn, 1) := by decide +kernel
theorem dX11_bits_0 : decode cX11_bits 0 = .ok (.iconst 0, 1) := by decide +kernel
theorem dX11_bits_1 : decode cX11_bits 1 = .ok (.istore_n 1, 1) := by decide +kernel
theorem dX11_bits_2 : decode cX11_bits 2 = .ok (.iconst 0, 1) := by decide +kernel
theorem dX11_bits_3 : decode cX11_bits 3 = .ok (.istore_n 2, 1) := by decide +kernel
theorem dX11_bits_4 : decode cX11_bits 4 = .ok (.iload_n 2, 1) := by decide +kernel
theorem dX11_bits_5 : decode cX11_bits 5 = .ok (.bipush 6, 2) := by decide +kernel
theorem dX11_bits_7 : decode cX11_bits 7 = .ok (.if_icmp .ge 17, 3) := by decide +kernel
theorem dX11_bits_10 : decode cX11_bits 10 = .ok (.iload_n 1, 1) := by decide +kernel
theorem dX11_bits_11 : decode cX11_bits 11 = .ok (.iload_n 0, 1) := by decide +kernel
theorem dX11_bits_12 : decode cX11_bits 12 = .ok (.iload_n 2, 1) := by decide +kernel
theorem dX11_bits_13 : decode cX11_bits 13 = .ok (.ishr, 1) := by decide +kernel
theorem dX11_bits_14 : decode cX11_bits 14 = .ok (.iconst 1, 1) := by decide +kernel
theorem dX11_bits_15 : decode cX11_bits 15 = .ok (.iand, 1) := by decide +kernel
theorem dX11_bits_16 : decode cX11_bits 16 = .ok (.iadd, 1) := by decide +kernel
theorem dX11_bits_17 : decode cX11_bits 17 = .ok (.istore_n 1, 1) := by decide +kernel
theorem dX11_bits_18 : decode cX11_bits 18 = .ok (.iinc 2 1, 3) := by decide +kernel
theorem dX11_bits_21 : decode cX11_bits 21 = .ok (.goto (-17), 3) := by decide +kernel
theorem dX11_bits_24 : decode cX11_bits 24 = .ok (.iload_n 1, 1) := by decide +kernel
theorem dX11_bits_25 : decode cX11_bits 25 = .ok (.ireturn, 1) := by decide +kernel
theorem dX11_stopped_0 : decode cX11_stopped 0 = .ok (.aload_n 0, 1) := by decide +kernel
theorem dX11_stopped_1 : decode cX11_stopped 1 = .ok (.iload_n 1, 1) := by decide +kernel
theorem dX11_stopped_2 : decode cX11_stopped 2 = .ok (.iload_n 2, 1) := by decide +kernel
theorem dX11_stopped_3 : decode cX11_stopped 3 = .ok (.iload_n 3, 1) := by decide +kernel
theorem dX11_stopped_4 : decode cX11_stopped 4 = .ok (.iload 4, 2) := by decide +kernel
theorem dX11_stopped_6 : decode cX11_stopped 6 = .ok (.iload 5, 2) := by decide +kernel
theorem dX11_stopped_8 : decode cX11_stopped 8 = .ok (.invokevirtual 363, 3) := by decide +kernel
theorem dX11_stopped_11 : decode cX11_stopped 11 = .ok (.ifCond .eq 15, 3) := by decide +kernel
theorem dX11_stopped_14 : decode cX11_stopped 14 = .ok (.iload 6, 2) := by decide +kernel
theorem dX11_stopped_16 : decode cX11_stopped 16 = .ok (.iconst 0, 1) := by decide +kernel
theorem dX11_stopped_17 : decode cX11_stopped 17 = .ok (.ldc_w 373, 3) := by decide +kernel
theorem dX11_stopped_20 : decode cX11_stopped 20 = .ok (.invokestatic 161, 3) := by decide +kernel
theorem dX11_stopped_23 : decode cX11_stopped 23 = .ok (.ifCond .ne 5, 3) := by decide +kernel
theorem dX11_stopped_26 : decode cX11_stopped 26 = .ok (.iconst (-1), 1) := by decide +kernel
theorem dX11_stopped_27 : decode cX11_stopped 27 = .ok (.ireturn, 1) := by decide +kernel
theorem dX11_stopped_28 : decode cX11_stopped 28 = .ok (.iconst 0, 1) := by decide +kernel
theorem dX11_stopped_29 : decode cX11_stopped 29 = .ok (.istore 7, 2) := by decide +kernel
theorem dX11_stopped_31 : decode cX11_stopped 31 = .ok (.iload 7, 2) := by decide +kernel
theorem dX11_stopped_33 : decode cX11_stopped 33 = .ok (.aload_n 0, 1) := by decide +kernel
theorem dX11_stopped_34 : decode cX11_stopped 34 = .ok (.getfield 151, 3) := by decide +kernel
theorem dX11_stopped_37 : decode cX11_stopped 37 = .ok (.if_icmp .ge 23, 3) := by decide +kernel
theorem dX11_stopped_40 : decode cX11_stopped 40 = .ok (.aload_n 0, 1) := by decide +kernel
theorem dX11_stopped_41 : decode cX11_stopped 41 = .ok (.getfield 144, 3) := by decide +kernel
theorem dX11_stopped_44 : decode cX11_stopped 44 = .ok (.iload 7, 2) := by decide +kernel
theorem dX11_stopped_46 : decode cX11_stopped 46 = .ok (.aload_n 0, 1) := by decide +kernel
theorem dX11_stopped_47 : decode cX11_stopped 47 = .ok (.iload_n 1, 1) := by decide +kernel
theorem dX11_stopped_48 : decode cX11_stopped 48 = .ok (.iload 7, 2) := by decide +kernel
theorem dX11_stopped_50 : decode cX11_stopped 50 = .ok (.invokevirtual 360, 3) := by decide +kernel
theorem dX11_stopped_53 : decode cX11_stopped 53 = .ok (.iastore, 1) := by decide +kernel
theorem dX11_stopped_54 : decode cX11_stopped 54 = .ok (.iinc 7 1, 3) := by decide +kernel
theorem dX11_stopped_57 : decode cX11_stopped 57 = .ok (.goto (-26), 3) := by decide +kernel
theorem dX11_stopped_60 : decode cX11_stopped 60 = .ok (.aload_n 0, 1) := by decide +kernel
theorem dX11_stopped_61 : decode cX11_stopped 61 = .ok (.iload_n 2, 1) := by decide +kernel
theorem dX11_stopped_62 : decode cX11_stopped 62 = .ok (.invokevirtual 367, 3) := by decide +kernel
theorem dX11_stopped_65 : decode cX11_stopped 65 = .ok (.iconst 0, 1) := by decide +kernel
theorem dX11_stopped_66 : decode cX11_stopped 66 = .ok (.istore 7, 2) := by decide +kernel
theorem dX11_stopped_68 : decode cX11_stopped 68 = .ok (.iload 7, 2) := by decide +kernel
theorem dX11_stopped_70 : decode cX11_stopped 70 = .ok (.bipush 6, 2) := by decide +kernel
theorem dX11_stopped_72 : decode cX11_stopped 72 = .ok (.if_icmp .gt 72, 3) := by decide +kernel
theorem dX11_stopped_75 : decode cX11_stopped 75 = .ok (.iconst 0, 1) := by decide +kernel
theorem dX11_stopped_76 : decode cX11_stopped 76 = .ok (.istore 8, 2) := by decide +kernel
theorem dX11_stopped_78 : decode cX11_stopped 78 = .ok (.iload 8, 2) := by decide +kernel
theorem dX11_stopped_80 : decode cX11_stopped 80 = .ok (.bipush 64, 2) := by decide +kernel
theorem dX11_stopped_82 : decode cX11_stopped 82 = .ok (.if_icmp .ge 56, 3) := by decide +kernel
theorem dX11_stopped_85 : decode cX11_stopped 85 = .ok (.iload 8, 2) := by decide +kernel
theorem dX11_stopped_87 : decode cX11_stopped 87 = .ok (.invokestatic 374, 3) := by decide +kernel
theorem dX11_stopped_90 : decode cX11_stopped 90 = .ok (.iload 7, 2) := by decide +kernel
theorem dX11_stopped_92 : decode cX11_stopped 92 = .ok (.if_icmp .eq 6, 3) := by decide +kernel
theorem dX11_stopped_95 : decode cX11_stopped 95 = .ok (.goto 37, 3) := by decide +kernel
theorem dX11_stopped_98 : decode cX11_stopped 98 = .ok (.aload_n 0, 1) := by decide +kernel
theorem dX11_stopped_99 : decode cX11_stopped 99 = .ok (.iload 8, 2) := by decide +kernel
theorem dX11_stopped_101 : decode cX11_stopped 101 = .ok (.putfield 308, 3) := by decide +kernel
theorem dX11_stopped_104 : decode cX11_stopped 104 = .ok (.aload_n 0, 1) := by decide +kernel
theorem dX11_stopped_105 : decode cX11_stopped 105 = .ok (.iload_n 1, 1) := by decide +kernel
theorem dX11_stopped_106 : decode cX11_stopped 106 = .ok (.iload_n 2, 1) := by decide +kernel
theorem dX11_stopped_107 : decode cX11_stopped 107 = .ok (.iload_n 3, 1) := by decide +kernel
theorem dX11_stopped_108 : decode cX11_stopped 108 = .ok (.iload 4, 2) := by decide +kernel
theorem dX11_stopped_110 : decode cX11_stopped 110 = .ok (.iload 5, 2) := by decide +kernel
theorem dX11_stopped_112 : decode cX11_stopped 112 = .ok (.iload 6, 2) := by decide +kernel
theorem dX11_stopped_114 : decode cX11_stopped 114 = .ok (.invokevirtual 377, 3) := by decide +kernel
theorem dX11_stopped_117 : decode cX11_stopped 117 = .ok (.istore 9, 2) := by decide +kernel
theorem dX11_stopped_119 : decode cX11_stopped 119 = .ok (.aload_n 0, 1) := by decide +kernel
theorem dX11_stopped_120 : decode cX11_stopped 120 = .ok (.iconst 0, 1) := by decide +kernel
theorem dX11_stopped_121 : decode cX11_stopped 121 = .ok (.putfield 308, 3) := by decide +kernel
theorem dX11_stopped_124 : decode cX11_stopped 124 = .ok (.iload 9, 2) := by decide +kernel
theorem dX11_stopped_126 : decode cX11_stopped 126 = .ok (.ifCond .eq 6, 3) := by decide +kernel
theorem dX11_stopped_129 : decode cX11_stopped 129 = .ok (.iload 8, 2) := by decide +kernel
theorem dX11_stopped_131 : decode cX11_stopped 131 = .ok (.ireturn, 1) := by decide +kernel
theorem dX11_stopped_132 : decode cX11_stopped 132 = .ok (.iinc 8 1, 3) := by decide +kernel
theorem dX11_stopped_135 : decode cX11_stopped 135 = .ok (.goto (-57), 3) := by decide +kernel
theorem dX11_stopped_138 : decode cX11_stopped 138 = .ok (.iinc 7 1, 3) := by decide +kernel
theorem dX11_stopped_141 : decode cX11_stopped 141 = .ok (.goto (-73), 3) := by decide +kernel
theorem dX11_stopped_144 : decode cX11_stopped 144 = .ok (.bipush (-2), 2) := by decide +kernel
theorem dX11_stopped_146 : decode cX11_stopped 146 = .ok (.ireturn, 1) := by decide +kernel
theorem dX11_tapeNumber_0 : decode cX11_tapeNumber 0 = .ok (.iconst 0, 1) := by decide +kernel
theorem dX11_tapeNumber_1 : decode cX11_tapeNumber 1 = .ok (.istore_n 2, 1) := by decide +kernel
theorem dX11_tapeNumber_2 : decode cX11_tapeNumber 2 = .ok (.iconst 4, 1) := by decide +kernel
theorem dX11_tapeNumber_3 : decode cX11_tapeNumber 3 = .ok (.iload_n 1, 1) := by decide +kernel
theorem dX11_tapeNumber_4 : decode cX11_tapeNumber 4 = .ok (.imul, 1) := by decide +kernel
theorem dX11_tapeNumber_5 : decode cX11_tapeNumber 5 = .ok (.istore_n 3, 1) := by decide +kernel
theorem dX11_tapeNumber_6 : decode cX11_tapeNumber 6 = .ok (.iload_n 3, 1) := by decide +kernel
theorem dX11_tapeNumber_7 : decode cX11_tapeNumber 7 = .ok (.iconst 4, 1) := by decide +kernel
theorem dX11_tapeNumber_8 : decode cX11_tapeNumber 8 = .ok (.iload_n 1, 1) := by decide +kernel
theorem dX11_tapeNumber_9 : decode cX11_tapeNumber 9 = .ok (.imul, 1) := by decide +kernel
theorem dX11_tapeNumber_10 : decode cX11_tapeNumber 10 = .ok (.iconst 4, 1) := by decide +kernel
theorem dX11_tapeNumber_11 : decode cX11_tapeNumber 11 = .ok (.iadd, 1) := by decide +kernel
theorem dX11_tapeNumber_12 : decode cX11_tapeNumber 12 = .ok (.if_icmp .ge 25, 3) := by decide +kernel
theorem dX11_tapeNumber_15 : decode cX11_tapeNumber 15 = .ok (.iload_n 2, 1) := by decide +kernel
theorem dX11_tapeNumber_16 : decode cX11_tapeNumber 16 = .ok (.bipush 8, 2) := by decide +kernel
theorem dX11_tapeNumber_18 : decode cX11_tapeNumber 18 = .ok (.ishl, 1) := by decide +kernel
theorem dX11_tapeNumber_19 : decode cX11_tapeNumber 19 = .ok (.aload_n 0, 1) := by decide +kernel
theorem dX11_tapeNumber_20 : decode cX11_tapeNumber 20 = .ok (.getfield 58, 3) := by decide +kernel
theorem dX11_tapeNumber_23 : decode cX11_tapeNumber 23 = .ok (.iload_n 3, 1) := by decide +kernel
theorem dX11_tapeNumber_24 : decode cX11_tapeNumber 24 = .ok (.baload, 1) := by decide +kernel
theorem dX11_tapeNumber_25 : decode cX11_tapeNumber 25 = .ok (.sipush 255, 3) := by decide +kernel
theorem dX11_tapeNumber_28 : decode cX11_tapeNumber 28 = .ok (.iand, 1) := by decide +kernel
theorem dX11_tapeNumber_29 : decode cX11_tapeNumber 29 = .ok (.ior, 1) := by decide +kernel
theorem dX11_tapeNumber_30 : decode cX11_tapeNumber 30 = .ok (.istore_n 2, 1) := by decide +kernel
theorem dX11_tapeNumber_31 : decode cX11_tapeNumber 31 = .ok (.iinc 3 1, 3) := by decide +kernel
theorem dX11_tapeNumber_34 : decode cX11_tapeNumber 34 = .ok (.goto (-28), 3) := by decide +kernel
theorem dX11_tapeNumber_37 : decode cX11_tapeNumber 37 = .ok (.iload_n 2, 1) := by decide +kernel
theorem dX11_tapeNumber_38 : decode cX11_tapeNumber 38 = .ok (.ireturn, 1) := by decide +kernel
theorem dX11_check_0 : decode cX11_check 0 = .ok (.aload_n 0, 1) := by decide +kernel
theorem dX11_check_1 : decode cX11_check 1 = .ok (.iload_n 1, 1) := by decide +kernel
theorem dX11_check_2 : decode cX11_check 2 = .ok (.iload_n 2, 1) := by decide +kernel
theorem dX11_check_3 : decode cX11_check 3 = .ok (.invokevirtual 344, 3) := by decide +kernel
theorem dX11_check_6 : decode cX11_check 6 = .ok (.ifCond .eq 17, 3) := by decide +kernel
theorem dX11_check_9 : decode cX11_check 9 = .ok (.iload_n 3, 1) := by decide +kernel
theorem dX11_check_10 : decode cX11_check 10 = .ok (.ifCond .lt 13, 3) := by decide +kernel
theorem dX11_check_13 : decode cX11_check 13 = .ok (.iload_n 3, 1) := by decide +kernel
theorem dX11_check_14 : decode cX11_check 14 = .ok (.aload_n 0, 1) := by decide +kernel
theorem dX11_check_15 : decode cX11_check 15 = .ok (.getfield 198, 3) := by decide +kernel
theorem dX11_check_18 : decode cX11_check 18 = .ok (.iconst 4, 1) := by decide +kernel
theorem dX11_check_19 : decode cX11_check 19 = .ok (.idiv, 1) := by decide +kernel
theorem dX11_check_20 : decode cX11_check 20 = .ok (.if_icmp .le 6, 3) := by decide +kernel
theorem dX11_check_23 : decode cX11_check 23 = .ok (.bipush (-2), 2) := by decide +kernel
theorem dX11_check_25 : decode cX11_check 25 = .ok (.ireturn, 1) := by decide +kernel
theorem dX11_check_26 : decode cX11_check 26 = .ok (.aload_n 0, 1) := by decide +kernel
theorem dX11_check_27 : decode cX11_check 27 = .ok (.iconst 0, 1) := by decide +kernel
theorem dX11_check_28 : decode cX11_check 28 = .ok (.putfield 198, 3) := by decide +kernel
theorem dX11_check_31 : decode cX11_check 31 = .ok (.aload_n 0, 1) := by decide +kernel
theorem dX11_check_32 : decode cX11_check 32 = .ok (.iload_n 1, 1) := by decide +kernel
theorem dX11_check_33 : decode cX11_check 33 = .ok (.iload_n 2, 1) := by decide +kernel
theorem dX11_check_34 : decode cX11_check 34 = .ok (.invokevirtual 341, 3) := by decide +kernel
theorem dX11_check_37 : decode cX11_check 37 = .ok (.iconst 0, 1) := by decide +kernel
theorem dX11_check_38 : decode cX11_check 38 = .ok (.istore 4, 2) := by decide +kernel
theorem dX11_check_40 : decode cX11_check 40 = .ok (.iload 4, 2) := by decide +kernel
theorem dX11_check_42 : decode cX11_check 42 = .ok (.aload_n 0, 1) := by decide +kernel
theorem dX11_check_43 : decode cX11_check 43 = .ok (.getfield 25, 3) := by decide +kernel
theorem dX11_check_46 : decode cX11_check 46 = .ok (.iload_n 2, 1) := by decide +kernel
theorem dX11_check_47 : decode cX11_check 47 = .ok (.iaload, 1) := by decide +kernel
theorem dX11_check_48 : decode cX11_check 48 = .ok (.if_icmp .gt 52, 3) := by decide +kernel
theorem dX11_check_51 : decode cX11_check 51 = .ok (.iload 4, 2) := by decide +kernel
theorem dX11_check_53 : decode cX11_check 53 = .ok (.iload_n 3, 1) := by decide +kernel
theorem dX11_check_54 : decode cX11_check 54 = .ok (.if_icmp .eq 37, 3) := by decide +kernel
theorem dX11_check_57 : decode cX11_check 57 = .ok (.aload_n 0, 1) := by decide +kernel
theorem dX11_check_58 : decode cX11_check 58 = .ok (.iload 4, 2) := by decide +kernel
theorem dX11_check_60 : decode cX11_check 60 = .ok (.invokevirtual 380, 3) := by decide +kernel
theorem dX11_check_63 : decode cX11_check 63 = .ok (.iload 4, 2) := by decide +kernel
theorem dX11_check_65 : decode cX11_check 65 = .ok (.aload_n 0, 1) := by decide +kernel
theorem dX11_check_66 : decode cX11_check 66 = .ok (.getfield 25, 3) := by decide +kernel
theorem dX11_check_69 : decode cX11_check 69 = .ok (.iload_n 2, 1) := by decide +kernel
theorem dX11_check_70 : decode cX11_check 70 = .ok (.iaload, 1) := by decide +kernel
theorem dX11_check_71 : decode cX11_check 71 = .ok (.if_icmp .ge 13, 3) := by decide +kernel
theorem dX11_check_74 : decode cX11_check 74 = .ok (.aload_n 0, 1) := by decide +kernel
theorem dX11_check_75 : decode cX11_check 75 = .ok (.getfield 113, 3) := by decide +kernel
theorem dX11_check_78 : decode cX11_check 78 = .ok (.iload 4, 2) := by decide +kernel
theorem dX11_check_80 : decode cX11_check 80 = .ok (.iaload, 1) := by decide +kernel
theorem dX11_check_81 : decode cX11_check 81 = .ok (.goto 7, 3) := by decide +kernel
theorem dX11_check_84 : decode cX11_check 84 = .ok (.aload_n 0, 1) := by decide +kernel
theorem dX11_check_85 : decode cX11_check 85 = .ok (.getfield 331, 3) := by decide +kernel
theorem dX11_check_88 : decode cX11_check 88 = .ok (.if_icmp .eq 6, 3) := by decide +kernel
theorem dX11_check_91 : decode cX11_check 91 = .ok (.iload 4, 2) := by decide +kernel
theorem dX11_check_93 : decode cX11_check 93 = .ok (.ireturn, 1) := by decide +kernel
theorem dX11_check_94 : decode cX11_check 94 = .ok (.iinc 4 1, 3) := by decide +kernel
theorem dX11_check_97 : decode cX11_check 97 = .ok (.goto (-57), 3) := by decide +kernel
theorem dX11_check_100 : decode cX11_check 100 = .ok (.aload_n 0, 1) := by decide +kernel
theorem dX11_check_101 : decode cX11_check 101 = .ok (.getfield 25, 3) := by decide +kernel
theorem dX11_check_104 : decode cX11_check 104 = .ok (.iload_n 2, 1) := by decide +kernel
theorem dX11_check_105 : decode cX11_check 105 = .ok (.iaload, 1) := by decide +kernel
theorem dX11_check_106 : decode cX11_check 106 = .ok (.iconst 1, 1) := by decide +kernel
theorem dX11_check_107 : decode cX11_check 107 = .ok (.iadd, 1) := by decide +kernel
theorem dX11_check_108 : decode cX11_check 108 = .ok (.iload_n 3, 1) := by decide +kernel
theorem dX11_check_109 : decode cX11_check 109 = .ok (.if_icmp .ge 14, 3) := by decide +kernel
theorem dX11_check_112 : decode cX11_check 112 = .ok (.aload_n 0, 1) := by decide +kernel
theorem dX11_check_113 : decode cX11_check 113 = .ok (.getfield 25, 3) := by decide +kernel
theorem dX11_check_116 : decode cX11_check 116 = .ok (.iload_n 2, 1) := by decide +kernel
theorem dX11_check_117 : decode cX11_check 117 = .ok (.iaload, 1) := by decide +kernel
theorem dX11_check_118 : decode cX11_check 118 = .ok (.iconst 1, 1) := by decide +kernel
theorem dX11_check_119 : decode cX11_check 119 = .ok (.iadd, 1) := by decide +kernel
theorem dX11_check_120 : decode cX11_check 120 = .ok (.goto 4, 3) := by decide +kernel
theorem dX11_check_123 : decode cX11_check 123 = .ok (.iconst (-1), 1) := by decide +kernel
theorem dX11_check_124 : decode cX11_check 124 = .ok (.ireturn, 1) := by decide +kernel
theorem dX11_look_0 : decode cX11_look 0 = .ok (.aload_n 0, 1) := by decide +kernel
theorem dX11_look_1 : decode cX11_look 1 = .ok (.iload_n 1, 1) := by decide +kernel
theorem dX11_look_2 : decode cX11_look 2 = .ok (.iload_n 2, 1) := by decide +kernel
theorem dX11_look_3 : decode cX11_look 3 = .ok (.invokevirtual 188, 3) := by decide +kernel
theorem dX11_look_6 : decode cX11_look 6 = .ok (.ifCond .ne 5, 3) := by decide +kernel
theorem dX11_look_9 : decode cX11_look 9 = .ok (.iconst (-1), 1) := by decide +kernel
theorem dX11_look_10 : decode cX11_look 10 = .ok (.ireturn, 1) := by decide +kernel
theorem dX11_look_11 : decode cX11_look 11 = .ok (.bipush 22, 2) := by decide +kernel
theorem dX11_look_13 : decode cX11_look 13 = .ok (.iload_n 1, 1) := by decide +kernel
theorem dX11_look_14 : decode cX11_look 14 = .ok (.imul, 1) := by decide +kernel
theorem dX11_look_15 : decode cX11_look 15 = .ok (.iload_n 2, 1) := by decide +kernel
theorem dX11_look_16 : decode cX11_look 16 = .ok (.iadd, 1) := by decide +kernel
theorem dX11_look_17 : decode cX11_look 17 = .ok (.istore 4, 2) := by decide +kernel
theorem dX11_look_19 : decode cX11_look 19 = .ok (.iload_n 3, 1) := by decide +kernel
theorem dX11_look_20 : decode cX11_look 20 = .ok (.tableswitch 123 0 8 #[52, 60, 68, 76, 84, 92, 100, 108, 116], 52) := by decide +kernel
theorem dX11_look_72 : decode cX11_look 72 = .ok (.aload_n 0, 1) := by decide +kernel
theorem dX11_look_73 : decode cX11_look 73 = .ok (.getfield 28, 3) := by decide +kernel
theorem dX11_look_76 : decode cX11_look 76 = .ok (.iload 4, 2) := by decide +kernel
theorem dX11_look_78 : decode cX11_look 78 = .ok (.iaload, 1) := by decide +kernel
theorem dX11_look_79 : decode cX11_look 79 = .ok (.ireturn, 1) := by decide +kernel
theorem dX11_look_80 : decode cX11_look 80 = .ok (.aload_n 0, 1) := by decide +kernel
theorem dX11_look_81 : decode cX11_look 81 = .ok (.getfield 31, 3) := by decide +kernel
theorem dX11_look_84 : decode cX11_look 84 = .ok (.iload 4, 2) := by decide +kernel
theorem dX11_look_86 : decode cX11_look 86 = .ok (.iaload, 1) := by decide +kernel
theorem dX11_look_87 : decode cX11_look 87 = .ok (.ireturn, 1) := by decide +kernel
theorem dX11_look_88 : decode cX11_look 88 = .ok (.aload_n 0, 1) := by decide +kernel
theorem dX11_look_89 : decode cX11_look 89 = .ok (.getfield 34, 3) := by decide +kernel
theorem dX11_look_92 : decode cX11_look 92 = .ok (.iload 4, 2) := by decide +kernel
theorem dX11_look_94 : decode cX11_look 94 = .ok (.iaload, 1) := by decide +kernel
theorem dX11_look_95 : decode cX11_look 95 = .ok (.ireturn, 1) := by decide +kernel
theorem dX11_look_96 : decode cX11_look 96 = .ok (.aload_n 0, 1) := by decide +kernel
theorem dX11_look_97 : decode cX11_look 97 = .ok (.getfield 37, 3) := by decide +kernel
theorem dX11_look_100 : decode cX11_look 100 = .ok (.iload 4, 2) := by decide +kernel
theorem dX11_look_102 : decode cX11_look 102 = .ok (.iaload, 1) := by decide +kernel
theorem dX11_look_103 : decode cX11_look 103 = .ok (.ireturn, 1) := by decide +kernel
theorem dX11_look_104 : decode cX11_look 104 = .ok (.aload_n 0, 1) := by decide +kernel
theorem dX11_look_105 : decode cX11_look 105 = .ok (.getfield 40, 3) := by decide +kernel
theorem dX11_look_108 : decode cX11_look 108 = .ok (.iload 4, 2) := by decide +kernel
theorem dX11_look_110 : decode cX11_look 110 = .ok (.iaload, 1) := by decide +kernel
theorem dX11_look_111 : decode cX11_look 111 = .ok (.ireturn, 1) := by decide +kernel
theorem dX11_look_112 : decode cX11_look 112 = .ok (.aload_n 0, 1) := by decide +kernel
theorem dX11_look_113 : decode cX11_look 113 = .ok (.getfield 43, 3) := by decide +kernel
theorem dX11_look_116 : decode cX11_look 116 = .ok (.iload 4, 2) := by decide +kernel
theorem dX11_look_118 : decode cX11_look 118 = .ok (.iaload, 1) := by decide +kernel
theorem dX11_look_119 : decode cX11_look 119 = .ok (.ireturn, 1) := by decide +kernel
theorem dX11_look_120 : decode cX11_look 120 = .ok (.aload_n 0, 1) := by decide +kernel
theorem dX11_look_121 : decode cX11_look 121 = .ok (.getfield 46, 3) := by decide +kernel
theorem dX11_look_124 : decode cX11_look 124 = .ok (.iload 4, 2) := by decide +kernel
theorem dX11_look_126 : decode cX11_look 126 = .ok (.iaload, 1) := by decide +kernel
theorem dX11_look_127 : decode cX11_look 127 = .ok (.ireturn, 1) := by decide +kernel
theorem dX11_look_128 : decode cX11_look 128 = .ok (.aload_n 0, 1) := by decide +kernel
theorem dX11_look_129 : decode cX11_look 129 = .ok (.getfield 49, 3) := by decide +kernel
theorem dX11_look_132 : decode cX11_look 132 = .ok (.iload 4, 2) := by decide +kernel
theorem dX11_look_134 : decode cX11_look 134 = .ok (.iaload, 1) := by decide +kernel
theorem dX11_look_135 : decode cX11_look 135 = .ok (.ireturn, 1) := by decide +kernel
theorem dX11_look_136 : decode cX11_look 136 = .ok (.aload_n 0, 1) := by decide +kernel
theorem dX11_look_137 : decode cX11_look 137 = .ok (.iload_n 1, 1) := by decide +kernel
theorem dX11_look_138 : decode cX11_look 138 = .ok (.iload_n 2, 1) := by decide +kernel
theorem dX11_look_139 : decode cX11_look 139 = .ok (.invokevirtual 176, 3) := by decide +kernel
theorem dX11_look_142 : decode cX11_look 142 = .ok (.ireturn, 1) := by decide +kernel
theorem dX11_look_143 : decode cX11_look 143 = .ok (.iconst (-1), 1) := by decide +kernel
theorem dX11_look_144 : decode cX11_look 144 = .ok (.ireturn, 1) := by decide +kernel
theorem dX11_count_0 : decode cX11_count 0 = .ok (.iload_n 1, 1) := by decide +kernel
theorem dX11_count_1 : decode cX11_count 1 = .ok (.tableswitch 51 0 3 #[31, 36, 41, 46], 31) := by decide +kernel
theorem dX11_count_32 : decode cX11_count 32 = .ok (.aload_n 0, 1) := by decide +kernel
theorem dX11_count_33 : decode cX11_count 33 = .ok (.getfield 158, 3) := by decide +kernel
theorem dX11_count_36 : decode cX11_count 36 = .ok (.ireturn, 1) := by decide +kernel
theorem dX11_count_37 : decode cX11_count 37 = .ok (.aload_n 0, 1) := by decide +kernel
theorem dX11_count_38 : decode cX11_count 38 = .ok (.getfield 147, 3) := by decide +kernel
theorem dX11_count_41 : decode cX11_count 41 = .ok (.ireturn, 1) := by decide +kernel
theorem dX11_count_42 : decode cX11_count 42 = .ok (.aload_n 0, 1) := by decide +kernel
theorem dX11_count_43 : decode cX11_count 43 = .ok (.getfield 151, 3) := by decide +kernel
theorem dX11_count_46 : decode cX11_count 46 = .ok (.ireturn, 1) := by decide +kernel
theorem dX11_count_47 : decode cX11_count 47 = .ok (.aload_n 0, 1) := by decide +kernel
theorem dX11_count_48 : decode cX11_count 48 = .ok (.getfield 198, 3) := by decide +kernel
theorem dX11_count_51 : decode cX11_count 51 = .ok (.ireturn, 1) := by decide +kernel
theorem dX11_count_52 : decode cX11_count 52 = .ok (.iload_n 1, 1) := by decide +kernel
theorem dX11_count_53 : decode cX11_count 53 = .ok (.bipush 10, 2) := by decide +kernel
theorem dX11_count_55 : decode cX11_count 55 = .ok (.bipush 9, 2) := by decide +kernel
theorem dX11_count_57 : decode cX11_count 57 = .ok (.aload_n 0, 1) := by decide +kernel
theorem dX11_count_58 : decode cX11_count 58 = .ok (.getfield 151, 3) := by decide +kernel
theorem dX11_count_61 : decode cX11_count 61 = .ok (.iadd, 1) := by decide +kernel
theorem dX11_count_62 : decode cX11_count 62 = .ok (.invokestatic 161, 3) := by decide +kernel
theorem dX11_count_65 : decode cX11_count 65 = .ok (.ifCond .eq 13, 3) := by decide +kernel
theorem dX11_count_68 : decode cX11_count 68 = .ok (.aload_n 0, 1) := by decide +kernel
theorem dX11_count_69 : decode cX11_count 69 = .ok (.getfield 25, 3) := by decide +kernel
theorem dX11_count_72 : decode cX11_count 72 = .ok (.iload_n 1, 1) := by decide +kernel
theorem dX11_count_73 : decode cX11_count 73 = .ok (.bipush 10, 2) := by decide +kernel
theorem dX11_count_75 : decode cX11_count 75 = .ok (.isub, 1) := by decide +kernel
theorem dX11_count_76 : decode cX11_count 76 = .ok (.iaload, 1) := by decide +kernel
theorem dX11_count_77 : decode cX11_count 77 = .ok (.ireturn, 1) := by decide +kernel
theorem dX11_count_78 : decode cX11_count 78 = .ok (.iload_n 1, 1) := by decide +kernel
theorem dX11_count_79 : decode cX11_count 79 = .ok (.bipush 20, 2) := by decide +kernel
theorem dX11_count_81 : decode cX11_count 81 = .ok (.bipush 25, 2) := by decide +kernel
theorem dX11_count_83 : decode cX11_count 83 = .ok (.invokestatic 161, 3) := by decide +kernel
theorem dX11_count_86 : decode cX11_count 86 = .ok (.ifCond .eq 13, 3) := by decide +kernel
theorem dX11_count_89 : decode cX11_count 89 = .ok (.aload_n 0, 1) := by decide +kernel
theorem dX11_count_90 : decode cX11_count 90 = .ok (.getfield 80, 3) := by decide +kernel
theorem dX11_count_93 : decode cX11_count 93 = .ok (.iload_n 1, 1) := by decide +kernel
theorem dX11_count_94 : decode cX11_count 94 = .ok (.bipush 20, 2) := by decide +kernel
theorem dX11_count_96 : decode cX11_count 96 = .ok (.isub, 1) := by decide +kernel
theorem dX11_count_97 : decode cX11_count 97 = .ok (.iaload, 1) := by decide +kernel
theorem dX11_count_98 : decode cX11_count 98 = .ok (.ireturn, 1) := by decide +kernel
theorem dX11_count_99 : decode cX11_count 99 = .ok (.iload_n 1, 1) := by decide +kernel
theorem dX11_count_100 : decode cX11_count 100 = .ok (.bipush 30, 2) := by decide +kernel
theorem dX11_count_102 : decode cX11_count 102 = .ok (.bipush 29, 2) := by decide +kernel
theorem dX11_count_104 : decode cX11_count 104 = .ok (.aload_n 0, 1) := by decide +kernel
theorem dX11_count_105 : decode cX11_count 105 = .ok (.getfield 147, 3) := by decide +kernel
theorem dX11_count_108 : decode cX11_count 108 = .ok (.iadd, 1) := by decide +kernel
theorem dX11_count_109 : decode cX11_count 109 = .ok (.invokestatic 161, 3) := by decide +kernel
theorem dX11_count_112 : decode cX11_count 112 = .ok (.ifCond .eq 15, 3) := by decide +kernel
theorem dX11_count_115 : decode cX11_count 115 = .ok (.aload_n 0, 1) := by decide +kernel
theorem dX11_count_116 : decode cX11_count 116 = .ok (.getfield 13, 3) := by decide +kernel
theorem dX11_count_119 : decode cX11_count 119 = .ok (.iload_n 1, 1) := by decide +kernel
theorem dX11_count_120 : decode cX11_count 120 = .ok (.bipush 30, 2) := by decide +kernel
theorem dX11_count_122 : decode cX11_count 122 = .ok (.isub, 1) := by decide +kernel
theorem dX11_count_123 : decode cX11_count 123 = .ok (.iaload, 1) := by decide +kernel
theorem dX11_count_124 : decode cX11_count 124 = .ok (.goto 4, 3) := by decide +kernel
theorem dX11_count_127 : decode cX11_count 127 = .ok (.iconst (-1), 1) := by decide +kernel
theorem dX11_count_128 : decode cX11_count 128 = .ok (.ireturn, 1) := by decide +kernel
theorem dJ11_isValidCodePoint_9a6ad_0 : decode cJ11_isValidCodePoint_9a6ad 0 = .ok (.iload_n 0, 1) := by decide +kernel
theorem dJ11_isValidCodePoint_9a6ad_1 : decode cJ11_isValidCodePoint_9a6ad 1 = .ok (.bipush 16, 2) := by decide +kernel
theorem dJ11_isValidCodePoint_9a6ad_3 : decode cJ11_isValidCodePoint_9a6ad 3 = .ok (.iushr, 1) := by decide +kernel
theorem dJ11_isValidCodePoint_9a6ad_4 : decode cJ11_isValidCodePoint_9a6ad 4 = .ok (.istore_n 1, 1) := by decide +kernel
theorem dJ11_isValidCodePoint_9a6ad_5 : decode cJ11_isValidCodePoint_9a6ad 5 = .ok (.iload_n 1, 1) := by decide +kernel
theorem dJ11_isValidCodePoint_9a6ad_6 : decode cJ11_isValidCodePoint_9a6ad 6 = .ok (.bipush 17, 2) := by decide +kernel
theorem dJ11_isValidCodePoint_9a6ad_8 : decode cJ11_isValidCodePoint_9a6ad 8 = .ok (.if_icmp .ge 7, 3) := by decide +kernel
theorem dJ11_isValidCodePoint_9a6ad_11 : decode cJ11_isValidCodePoint_9a6ad 11 = .ok (.iconst 1, 1) := by decide +kernel
theorem dJ11_isValidCodePoint_9a6ad_12 : decode cJ11_isValidCodePoint_9a6ad 12 = .ok (.goto 4, 3) := by decide +kernel
theorem dJ11_isValidCodePoint_9a6ad_15 : decode cJ11_isValidCodePoint_9a6ad 15 = .ok (.iconst 0, 1) := by decide +kernel
theorem dJ11_isValidCodePoint_9a6ad_16 : decode cJ11_isValidCodePoint_9a6ad 16 = .ok (.ireturn, 1) := by decide +kernel
theorem dJ11_highSurrogate_5068e_0 : decode cJ11_highSurrogate_5068e 0 = .ok (.iload_n 0, 1) := by decide +kernel
theorem dJ11_highSurrogate_5068e_1 : decode cJ11_highSurrogate_5068e 1 = .ok (.bipush 10, 2) := by decide +kernel
theorem dJ11_highSurrogate_5068e_3 : decode cJ11_highSurrogate_5068e 3 = .ok (.iushr, 1) := by decide +kernel
theorem dJ11_highSurrogate_5068e_4 : decode cJ11_highSurrogate_5068e 4 = .ok (.ldc 110, 2) := by decide +kernel
theorem dJ11_highSurrogate_5068e_6 : decode cJ11_highSurrogate_5068e 6 = .ok (.iadd, 1) := by decide +kernel
theorem dJ11_highSurrogate_5068e_7 : decode cJ11_highSurrogate_5068e 7 = .ok (.i2c, 1) := by decide +kernel
theorem dJ11_highSurrogate_5068e_8 : decode cJ11_highSurrogate_5068e 8 = .ok (.ireturn, 1) := by decide +kernel
theorem dJ11_lowSurrogate_5068e_0 : decode cJ11_lowSurrogate_5068e 0 = .ok (.iload_n 0, 1) := by decide +kernel
theorem dJ11_lowSurrogate_5068e_1 : decode cJ11_lowSurrogate_5068e 1 = .ok (.sipush 1023, 3) := by decide +kernel
theorem dJ11_lowSurrogate_5068e_4 : decode cJ11_lowSurrogate_5068e 4 = .ok (.iand, 1) := by decide +kernel
theorem dJ11_lowSurrogate_5068e_5 : decode cJ11_lowSurrogate_5068e 5 = .ok (.ldc 76, 2) := by decide +kernel
theorem dJ11_lowSurrogate_5068e_7 : decode cJ11_lowSurrogate_5068e 7 = .ok (.iadd, 1) := by decide +kernel
theorem dJ11_lowSurrogate_5068e_8 : decode cJ11_lowSurrogate_5068e 8 = .ok (.i2c, 1) := by decide +kernel
theorem dJ11_lowSurrogate_5068e_9 : decode cJ11_lowSurrogate_5068e 9 = .ok (.ireturn, 1) := by decide +kernel
theorem dJ6_bitCount_0f7a4_0 : decode cJ6_bitCount_0f7a4 0 = .ok (.iload_n 0, 1) := by decide +kernel
theorem dJ6_bitCount_0f7a4_1 : decode cJ6_bitCount_0f7a4 1 = .ok (.iload_n 0, 1) := by decide +kernel
theorem dJ6_bitCount_0f7a4_2 : decode cJ6_bitCount_0f7a4 2 = .ok (.iconst 1, 1) := by decide +kernel
theorem dJ6_bitCount_0f7a4_3 : decode cJ6_bitCount_0f7a4 3 = .ok (.iushr, 1) := by decide +kernel
theorem dJ6_bitCount_0f7a4_4 : decode cJ6_bitCount_0f7a4 4 = .ok (.ldc_w 265, 3) := by decide +kernel
theorem dJ6_bitCount_0f7a4_7 : decode cJ6_bitCount_0f7a4 7 = .ok (.iand, 1) := by decide +kernel
theorem dJ6_bitCount_0f7a4_8 : decode cJ6_bitCount_0f7a4 8 = .ok (.isub, 1) := by decide +kernel
theorem dJ6_bitCount_0f7a4_9 : decode cJ6_bitCount_0f7a4 9 = .ok (.istore_n 0, 1) := by decide +kernel
theorem dJ6_bitCount_0f7a4_10 : decode cJ6_bitCount_0f7a4 10 = .ok (.iload_n 0, 1) := by decide +kernel
theorem dJ6_bitCount_0f7a4_11 : decode cJ6_bitCount_0f7a4 11 = .ok (.ldc_w 266, 3) := by decide +kernel
theorem dJ6_bitCount_0f7a4_14 : decode cJ6_bitCount_0f7a4 14 = .ok (.iand, 1) := by decide +kernel
theorem dJ6_bitCount_0f7a4_15 : decode cJ6_bitCount_0f7a4 15 = .ok (.iload_n 0, 1) := by decide +kernel
theorem dJ6_bitCount_0f7a4_16 : decode cJ6_bitCount_0f7a4 16 = .ok (.iconst 2, 1) := by decide +kernel
theorem dJ6_bitCount_0f7a4_17 : decode cJ6_bitCount_0f7a4 17 = .ok (.iushr, 1) := by decide +kernel
theorem dJ6_bitCount_0f7a4_18 : decode cJ6_bitCount_0f7a4 18 = .ok (.ldc_w 266, 3) := by decide +kernel
theorem dJ6_bitCount_0f7a4_21 : decode cJ6_bitCount_0f7a4 21 = .ok (.iand, 1) := by decide +kernel
theorem dJ6_bitCount_0f7a4_22 : decode cJ6_bitCount_0f7a4 22 = .ok (.iadd, 1) := by decide +kernel
theorem dJ6_bitCount_0f7a4_23 : decode cJ6_bitCount_0f7a4 23 = .ok (.istore_n 0, 1) := by decide +kernel
theorem dJ6_bitCount_0f7a4_24 : decode cJ6_bitCount_0f7a4 24 = .ok (.iload_n 0, 1) := by decide +kernel
theorem dJ6_bitCount_0f7a4_25 : decode cJ6_bitCount_0f7a4 25 = .ok (.iload_n 0, 1) := by decide +kernel
theorem dJ6_bitCount_0f7a4_26 : decode cJ6_bitCount_0f7a4 26 = .ok (.iconst 4, 1) := by decide +kernel
theorem dJ6_bitCount_0f7a4_27 : decode cJ6_bitCount_0f7a4 27 = .ok (.iushr, 1) := by decide +kernel
theorem dJ6_bitCount_0f7a4_28 : decode cJ6_bitCount_0f7a4 28 = .ok (.iadd, 1) := by decide +kernel
theorem dJ6_bitCount_0f7a4_29 : decode cJ6_bitCount_0f7a4 29 = .ok (.ldc_w 267, 3) := by decide +kernel
theorem dJ6_bitCount_0f7a4_32 : decode cJ6_bitCount_0f7a4 32 = .ok (.iand, 1) := by decide +kernel
theorem dJ6_bitCount_0f7a4_33 : decode cJ6_bitCount_0f7a4 33 = .ok (.istore_n 0, 1) := by decide +kernel
theorem dJ6_bitCount_0f7a4_34 : decode cJ6_bitCount_0f7a4 34 = .ok (.iload_n 0, 1) := by decide +kernel
theorem dJ6_bitCount_0f7a4_35 : decode cJ6_bitCount_0f7a4 35 = .ok (.iload_n 0, 1) := by decide +kernel
theorem dJ6_bitCount_0f7a4_36 : decode cJ6_bitCount_0f7a4 36 = .ok (.bipush 8, 2) := by decide +kernel
theorem dJ6_bitCount_0f7a4_38 : decode cJ6_bitCount_0f7a4 38 = .ok (.iushr, 1) := by decide +kernel
theorem dJ6_bitCount_0f7a4_39 : decode cJ6_bitCount_0f7a4 39 = .ok (.iadd, 1) := by decide +kernel
theorem dJ6_bitCount_0f7a4_40 : decode cJ6_bitCount_0f7a4 40 = .ok (.istore_n 0, 1) := by decide +kernel
theorem dJ6_bitCount_0f7a4_41 : decode cJ6_bitCount_0f7a4 41 = .ok (.iload_n 0, 1) := by decide +kernel
theorem dJ6_bitCount_0f7a4_42 : decode cJ6_bitCount_0f7a4 42 = .ok (.iload_n 0, 1) := by decide +kernel
theorem dJ6_bitCount_0f7a4_43 : decode cJ6_bitCount_0f7a4 43 = .ok (.bipush 16, 2) := by decide +kernel
theorem dJ6_bitCount_0f7a4_45 : decode cJ6_bitCount_0f7a4 45 = .ok (.iushr, 1) := by decide +kernel
theorem dJ6_bitCount_0f7a4_46 : decode cJ6_bitCount_0f7a4 46 = .ok (.iadd, 1) := by decide +kernel
theorem dJ6_bitCount_0f7a4_47 : decode cJ6_bitCount_0f7a4 47 = .ok (.istore_n 0, 1) := by decide +kernel
theorem dJ6_bitCount_0f7a4_48 : decode cJ6_bitCount_0f7a4 48 = .ok (.iload_n 0, 1) := by decide +kernel
theorem dJ6_bitCount_0f7a4_49 : decode cJ6_bitCount_0f7a4 49 = .ok (.bipush 63, 2) := by decide +kernel
theorem dJ6_bitCount_0f7a4_51 : decode cJ6_bitCount_0f7a4 51 = .ok (.iand, 1) := by decide +kernel
theorem dJ6_bitCount_0f7a4_52 : decode cJ6_bitCount_0f7a4 52 = .ok (.ireturn, 1) := by decide +kernel
theorem dJ9_max_7cf53_0 : decode cJ9_max_7cf53 0 = .ok (.iload_n 0, 1) := by decide +kernel
theorem dJ9_max_7cf53_1 : decode cJ9_max_7cf53 1 = .ok (.iload_n 1, 1) := by decide +kernel
theorem dJ9_max_7cf53_2 : decode cJ9_max_7cf53 2 = .ok (.if_icmp .lt 7, 3) := by decide +kernel
theorem dJ9_max_7cf53_5 : decode cJ9_max_7cf53 5 = .ok (.iload_n 0, 1) := by decide +kernel
theorem dJ9_max_7cf53_6 : decode cJ9_max_7cf53 6 = .ok (.goto 4, 3) := by decide +kernel
theorem dJ9_max_7cf53_9 : decode cJ9_max_7cf53 9 = .ok (.iload_n 1, 1) := by decide +kernel
theorem dJ9_max_7cf53_10 : decode cJ9_max_7cf53 10 = .ok (.ireturn, 1) := by decide +kernel
theorem dJ9_min_7cf53_0 : decode cJ9_min_7cf53 0 = .ok (.iload_n 0, 1) := by decide +kernel
theorem dJ9_min_7cf53_1 : decode cJ9_min_7cf53 1 = .ok (.iload_n 1, 1) := by decide +kernel
theorem dJ9_min_7cf53_2 : decode cJ9_min_7cf53 2 = .ok (.if_icmp .gt 7, 3) := by decide +kernel
theorem dJ9_min_7cf53_5 : decode cJ9_min_7cf53 5 = .ok (.iload_n 0, 1) := by decide +kernel
theorem dJ9_min_7cf53_6 : decode cJ9_min_7cf53 6 = .ok (.goto 4, 3) := by decide +kernel
theorem dJ9_min_7cf53_9 : decode cJ9_min_7cf53 9 = .ok (.iload_n 1, 1) := by decide +kernel
theorem dJ9_min_7cf53_10 : decode cJ9_min_7cf53 10 = .ok (.ireturn, 1) := by decide +kernel
theorem dJ0_length_8abf5_0 : decode cJ0_length_8abf5 0 = .ok (.aload_n 0, 1) := by decide +kernel
theorem dJ0_length_8abf5_1 : decode cJ0_length_8abf5 1 = .ok (.getfield 9, 3) := by decide +kernel
theorem dJ0_length_8abf5_4 : decode cJ0_length_8abf5 4 = .ok (.arraylength, 1) := by decide +kernel
theorem dJ0_length_8abf5_5 : decode cJ0_length_8abf5 5 = .ok (.aload_n 0, 1) := by decide +kernel
theorem dJ0_length_8abf5_6 : decode cJ0_length_8abf5 6 = .ok (.invokevirtual 335, 3) := by decide +kernel
theorem dJ0_length_8abf5_9 : decode cJ0_length_8abf5 9 = .ok (.ishr, 1) := by decide +kernel
theorem dJ0_length_8abf5_10 : decode cJ0_length_8abf5 10 = .ok (.ireturn, 1) := by decide +kernel
theorem dJ0_indexOf_0f7a4_0 : decode cJ0_indexOf_0f7a4 0 = .ok (.aload_n 0, 1) := by decide +kernel
theorem dJ0_indexOf_0f7a4_1 : decode cJ0_indexOf_0f7a4 1 = .ok (.iload_n 1, 1) := by decide +kernel
theorem dJ0_indexOf_0f7a4_2 : decode cJ0_indexOf_0f7a4 2 = .ok (.iconst 0, 1) := by decide +kernel
theorem dJ0_indexOf_0f7a4_3 : decode cJ0_indexOf_0f7a4 3 = .ok (.invokevirtual 633, 3) := by decide +kernel
theorem dJ0_indexOf_0f7a4_6 : decode cJ0_indexOf_0f7a4 6 = .ok (.ireturn, 1) := by decide +kernel
theorem dJ0_indexOf_7cf53_0 : decode cJ0_indexOf_7cf53 0 = .ok (.aload_n 0, 1) := by decide +kernel
theorem dJ0_indexOf_7cf53_1 : decode cJ0_indexOf_7cf53 1 = .ok (.invokevirtual 492, 3) := by decide +kernel
theorem dJ0_indexOf_7cf53_4 : decode cJ0_indexOf_7cf53 4 = .ok (.ifCond .eq 19, 3) := by decide +kernel
theorem dJ0_indexOf_7cf53_7 : decode cJ0_indexOf_7cf53 7 = .ok (.aload_n 0, 1) := by decide +kernel
theorem dJ0_indexOf_7cf53_8 : decode cJ0_indexOf_7cf53 8 = .ok (.getfield 9, 3) := by decide +kernel
theorem dJ0_indexOf_7cf53_11 : decode cJ0_indexOf_7cf53 11 = .ok (.iload_n 1, 1) := by decide +kernel
theorem dJ0_indexOf_7cf53_12 : decode cJ0_indexOf_7cf53 12 = .ok (.iload_n 2, 1) := by decide +kernel
theorem dJ0_indexOf_7cf53_13 : decode cJ0_indexOf_7cf53 13 = .ok (.aload_n 0, 1) := by decide +kernel
theorem dJ0_indexOf_7cf53_14 : decode cJ0_indexOf_7cf53 14 = .ok (.invokevirtual 505, 3) := by decide +kernel
theorem dJ0_indexOf_7cf53_17 : decode cJ0_indexOf_7cf53 17 = .ok (.invokestatic 637, 3) := by decide +kernel
theorem dJ0_indexOf_7cf53_20 : decode cJ0_indexOf_7cf53 20 = .ok (.goto 16, 3) := by decide +kernel
theorem dJ0_indexOf_7cf53_23 : decode cJ0_indexOf_7cf53 23 = .ok (.aload_n 0, 1) := by decide +kernel
theorem dJ0_indexOf_7cf53_24 : decode cJ0_indexOf_7cf53 24 = .ok (.getfield 9, 3) := by decide +kernel
theorem dJ0_indexOf_7cf53_27 : decode cJ0_indexOf_7cf53 27 = .ok (.iload_n 1, 1) := by decide +kernel
theorem dJ0_indexOf_7cf53_28 : decode cJ0_indexOf_7cf53 28 = .ok (.iload_n 2, 1) := by decide +kernel
theorem dJ0_indexOf_7cf53_29 : decode cJ0_indexOf_7cf53 29 = .ok (.aload_n 0, 1) := by decide +kernel
theorem dJ0_indexOf_7cf53_30 : decode cJ0_indexOf_7cf53 30 = .ok (.invokevirtual 505, 3) := by decide +kernel
theorem dJ0_indexOf_7cf53_33 : decode cJ0_indexOf_7cf53 33 = .ok (.invokestatic 640, 3) := by decide +kernel
theorem dJ0_indexOf_7cf53_36 : decode cJ0_indexOf_7cf53 36 = .ok (.ireturn, 1) := by decide +kernel
theorem dJ0_coder_7d493_0 : decode cJ0_coder_7d493 0 = .ok (.getstatic 38, 3) := by decide +kernel
theorem dJ0_coder_7d493_3 : decode cJ0_coder_7d493 3 = .ok (.ifCond .eq 10, 3) := by decide +kernel
theorem dJ0_coder_7d493_6 : decode cJ0_coder_7d493 6 = .ok (.aload_n 0, 1) := by decide +kernel
theorem dJ0_coder_7d493_7 : decode cJ0_coder_7d493 7 = .ok (.getfield 15, 3) := by decide +kernel
theorem dJ0_coder_7d493_10 : decode cJ0_coder_7d493 10 = .ok (.goto 4, 3) := by decide +kernel
theorem dJ0_coder_7d493_13 : decode cJ0_coder_7d493 13 = .ok (.iconst 1, 1) := by decide +kernel
theorem dJ0_coder_7d493_14 : decode cJ0_coder_7d493 14 = .ok (.ireturn, 1) := by decide +kernel
theorem dJ0_isLatin1_aae02_0 : decode cJ0_isLatin1_aae02 0 = .ok (.getstatic 38, 3) := by decide +kernel
theorem dJ0_isLatin1_aae02_3 : decode cJ0_isLatin1_aae02 3 = .ok (.ifCond .eq 14, 3) := by decide +kernel
theorem dJ0_isLatin1_aae02_6 : decode cJ0_isLatin1_aae02 6 = .ok (.aload_n 0, 1) := by decide +kernel
theorem dJ0_isLatin1_aae02_7 : decode cJ0_isLatin1_aae02 7 = .ok (.getfield 15, 3) := by decide +kernel
theorem dJ0_isLatin1_aae02_10 : decode cJ0_isLatin1_aae02 10 = .ok (.ifCond .ne 7, 3) := by decide +kernel
theorem dJ0_isLatin1_aae02_13 : decode cJ0_isLatin1_aae02 13 = .ok (.iconst 1, 1) := by decide +kernel
theorem dJ0_isLatin1_aae02_14 : decode cJ0_isLatin1_aae02 14 = .ok (.goto 4, 3) := by decide +kernel
theorem dJ0_isLatin1_aae02_17 : decode cJ0_isLatin1_aae02 17 = .ok (.iconst 0, 1) := by decide +kernel
theorem dJ0_isLatin1_aae02_18 : decode cJ0_isLatin1_aae02 18 = .ok (.ireturn, 1) := by decide +kernel
theorem dJ0_checkBoundsBeginEnd_23922_0 : decode cJ0_checkBoundsBeginEnd_23922 0 = .ok (.iload_n 0, 1) := by decide +kernel
theorem dJ0_checkBoundsBeginEnd_23922_1 : decode cJ0_checkBoundsBeginEnd_23922 1 = .ok (.iload_n 1, 1) := by decide +kernel
theorem dJ0_checkBoundsBeginEnd_23922_2 : decode cJ0_checkBoundsBeginEnd_23922 2 = .ok (.iload_n 2, 1) := by decide +kernel
theorem dJ0_checkBoundsBeginEnd_23922_3 : decode cJ0_checkBoundsBeginEnd_23922 3 = .ok (.getstatic 1053, 3) := by decide +kernel
theorem dJ0_checkBoundsBeginEnd_23922_6 : decode cJ0_checkBoundsBeginEnd_23922 6 = .ok (.invokestatic 1062, 3) := by decide +kernel
theorem dJ0_checkBoundsBeginEnd_23922_9 : decode cJ0_checkBoundsBeginEnd_23922 9 = .ok (.pop, 1) := by decide +kernel
theorem dJ0_checkBoundsBeginEnd_23922_10 : decode cJ0_checkBoundsBeginEnd_23922 10 = .ok (.return_, 1) := by decide +kernel
theorem dJ1_canEncode_9a6ad_0 : decode cJ1_canEncode_9a6ad 0 = .ok (.iload_n 0, 1) := by decide +kernel
theorem dJ1_canEncode_9a6ad_1 : decode cJ1_canEncode_9a6ad 1 = .ok (.ifCond .lt 14, 3) := by decide +kernel
theorem dJ1_canEncode_9a6ad_4 : decode cJ1_canEncode_9a6ad 4 = .ok (.iload_n 0, 1) := by decide +kernel
theorem dJ1_canEncode_9a6ad_5 : decode cJ1_canEncode_9a6ad 5 = .ok (.sipush 255, 3) := by decide +kernel
theorem dJ1_canEncode_9a6ad_8 : decode cJ1_canEncode_9a6ad 8 = .ok (.if_icmp .gt 7, 3) := by decide +kernel
theorem dJ1_canEncode_9a6ad_11 : decode cJ1_canEncode_9a6ad 11 = .ok (.iconst 1, 1) := by decide +kernel
theorem dJ1_canEncode_9a6ad_12 : decode cJ1_canEncode_9a6ad 12 = .ok (.goto 4, 3) := by decide +kernel
theorem dJ1_canEncode_9a6ad_15 : decode cJ1_canEncode_9a6ad 15 = .ok (.iconst 0, 1) := by decide +kernel
theorem dJ1_canEncode_9a6ad_16 : decode cJ1_canEncode_9a6ad 16 = .ok (.ireturn, 1) := by decide +kernel
theorem dJ1_indexOf_4cfef_0 : decode cJ1_indexOf_4cfef 0 = .ok (.iload_n 1, 1) := by decide +kernel
theorem dJ1_indexOf_4cfef_1 : decode cJ1_indexOf_4cfef 1 = .ok (.invokestatic 88, 3) := by decide +kernel
theorem dJ1_indexOf_4cfef_4 : decode cJ1_indexOf_4cfef 4 = .ok (.ifCond .ne 5, 3) := by decide +kernel
theorem dJ1_indexOf_4cfef_7 : decode cJ1_indexOf_4cfef 7 = .ok (.iconst (-1), 1) := by decide +kernel
theorem dJ1_indexOf_4cfef_8 : decode cJ1_indexOf_4cfef 8 = .ok (.ireturn, 1) := by decide +kernel
theorem dJ1_indexOf_4cfef_9 : decode cJ1_indexOf_4cfef 9 = .ok (.iload_n 2, 1) := by decide +kernel
theorem dJ1_indexOf_4cfef_10 : decode cJ1_indexOf_4cfef 10 = .ok (.iconst 0, 1) := by decide +kernel
theorem dJ1_indexOf_4cfef_11 : decode cJ1_indexOf_4cfef 11 = .ok (.invokestatic 92, 3) := by decide +kernel
theorem dJ1_indexOf_4cfef_14 : decode cJ1_indexOf_4cfef 14 = .ok (.istore_n 2, 1) := by decide +kernel
theorem dJ1_indexOf_4cfef_15 : decode cJ1_indexOf_4cfef 15 = .ok (.iload_n 3, 1) := by decide +kernel
theorem dJ1_indexOf_4cfef_16 : decode cJ1_indexOf_4cfef 16 = .ok (.aload_n 0, 1) := by decide +kernel
theorem dJ1_indexOf_4cfef_17 : decode cJ1_indexOf_4cfef 17 = .ok (.arraylength, 1) := by decide +kernel
theorem dJ1_indexOf_4cfef_18 : decode cJ1_indexOf_4cfef 18 = .ok (.invokestatic 38, 3) := by decide +kernel
theorem dJ1_indexOf_4cfef_21 : decode cJ1_indexOf_4cfef 21 = .ok (.istore_n 3, 1) := by decide +kernel
theorem dJ1_indexOf_4cfef_22 : decode cJ1_indexOf_4cfef 22 = .ok (.iload_n 2, 1) := by decide +kernel
theorem dJ1_indexOf_4cfef_23 : decode cJ1_indexOf_4cfef 23 = .ok (.iload_n 3, 1) := by decide +kernel
theorem dJ1_indexOf_4cfef_24 : decode cJ1_indexOf_4cfef 24 = .ok (.if_icmp .lt 5, 3) := by decide +kernel
theorem dJ1_indexOf_4cfef_27 : decode cJ1_indexOf_4cfef 27 = .ok (.iconst (-1), 1) := by decide +kernel
theorem dJ1_indexOf_4cfef_28 : decode cJ1_indexOf_4cfef 28 = .ok (.ireturn, 1) := by decide +kernel
theorem dJ1_indexOf_4cfef_29 : decode cJ1_indexOf_4cfef 29 = .ok (.aload_n 0, 1) := by decide +kernel
theorem dJ1_indexOf_4cfef_30 : decode cJ1_indexOf_4cfef 30 = .ok (.iload_n 1, 1) := by decide +kernel
theorem dJ1_indexOf_4cfef_31 : decode cJ1_indexOf_4cfef 31 = .ok (.iload_n 2, 1) := by decide +kernel
theorem dJ1_indexOf_4cfef_32 : decode cJ1_indexOf_4cfef 32 = .ok (.iload_n 3, 1) := by decide +kernel
theorem dJ1_indexOf_4cfef_33 : decode cJ1_indexOf_4cfef 33 = .ok (.invokestatic 95, 3) := by decide +kernel
theorem dJ1_indexOf_4cfef_36 : decode cJ1_indexOf_4cfef 36 = .ok (.ireturn, 1) := by decide +kernel
theorem dJ1_indexOfChar_4cfef_0 : decode cJ1_indexOfChar_4cfef 0 = .ok (.iload_n 1, 1) := by decide +kernel
theorem dJ1_indexOfChar_4cfef_1 : decode cJ1_indexOfChar_4cfef 1 = .ok (.i2b, 1) := by decide +kernel
theorem dJ1_indexOfChar_4cfef_2 : decode cJ1_indexOfChar_4cfef 2 = .ok (.istore 4, 2) := by decide +kernel
theorem dJ1_indexOfChar_4cfef_4 : decode cJ1_indexOfChar_4cfef 4 = .ok (.iload_n 2, 1) := by decide +kernel
theorem dJ1_indexOfChar_4cfef_5 : decode cJ1_indexOfChar_4cfef 5 = .ok (.istore 5, 2) := by decide +kernel
theorem dJ1_indexOfChar_4cfef_7 : decode cJ1_indexOfChar_4cfef 7 = .ok (.iload 5, 2) := by decide +kernel
theorem dJ1_indexOfChar_4cfef_9 : decode cJ1_indexOfChar_4cfef 9 = .ok (.iload_n 3, 1) := by decide +kernel
theorem dJ1_indexOfChar_4cfef_10 : decode cJ1_indexOfChar_4cfef 10 = .ok (.if_icmp .ge 21, 3) := by decide +kernel
theorem dJ1_indexOfChar_4cfef_13 : decode cJ1_indexOfChar_4cfef 13 = .ok (.aload_n 0, 1) := by decide +kernel
theorem dJ1_indexOfChar_4cfef_14 : decode cJ1_indexOfChar_4cfef 14 = .ok (.iload 5, 2) := by decide +kernel
theorem dJ1_indexOfChar_4cfef_16 : decode cJ1_indexOfChar_4cfef 16 = .ok (.baload, 1) := by decide +kernel
theorem dJ1_indexOfChar_4cfef_17 : decode cJ1_indexOfChar_4cfef 17 = .ok (.iload 4, 2) := by decide +kernel
theorem dJ1_indexOfChar_4cfef_19 : decode cJ1_indexOfChar_4cfef 19 = .ok (.if_icmp .ne 6, 3) := by decide +kernel
theorem dJ1_indexOfChar_4cfef_22 : decode cJ1_indexOfChar_4cfef 22 = .ok (.iload 5, 2) := by decide +kernel
theorem dJ1_indexOfChar_4cfef_24 : decode cJ1_indexOfChar_4cfef 24 = .ok (.ireturn, 1) := by decide +kernel
theorem dJ1_indexOfChar_4cfef_25 : decode cJ1_indexOfChar_4cfef 25 = .ok (.iinc 5 1, 3) := by decide +kernel
theorem dJ1_indexOfChar_4cfef_28 : decode cJ1_indexOfChar_4cfef 28 = .ok (.goto (-21), 3) := by decide +kernel
theorem dJ1_indexOfChar_4cfef_31 : decode cJ1_indexOfChar_4cfef 31 = .ok (.iconst (-1), 1) := by decide +kernel
theorem dJ1_indexOfChar_4cfef_32 : decode cJ1_indexOfChar_4cfef 32 = .ok (.ireturn, 1) := by decide +kernel
theorem dJ2_getChar_3b067_0 : decode cJ2_getChar_3b067 0 = .ok (.getstatic 44, 3) := by decide +kernel
theorem dJ2_getChar_3b067_3 : decode cJ2_getChar_3b067 3 = .ok (.ifCond .ne 25, 3) := by decide +kernel
theorem dJ2_getChar_3b067_6 : decode cJ2_getChar_3b067 6 = .ok (.iload_n 1, 1) := by decide +kernel
theorem dJ2_getChar_3b067_7 : decode cJ2_getChar_3b067 7 = .ok (.ifCond .lt 11, 3) := by decide +kernel
theorem dJ2_getChar_3b067_10 : decode cJ2_getChar_3b067 10 = .ok (.iload_n 1, 1) := by decide +kernel
theorem dJ2_getChar_3b067_11 : decode cJ2_getChar_3b067 11 = .ok (.aload_n 0, 1) := by decide +kernel
theorem dJ2_getChar_3b067_12 : decode cJ2_getChar_3b067 12 = .ok (.invokestatic 48, 3) := by decide +kernel
theorem dJ2_getChar_3b067_15 : decode cJ2_getChar_3b067 15 = .ok (.if_icmp .lt 13, 3) := by decide +kernel
theorem dJ2_getChar_3b067_18 : decode cJ2_getChar_3b067 18 = .ok (.new 52, 3) := by decide +kernel
theorem dJ2_getChar_3b067_21 : decode cJ2_getChar_3b067 21 = .ok (.dup, 1) := by decide +kernel
theorem dJ2_getChar_3b067_22 : decode cJ2_getChar_3b067 22 = .ok (.ldc 54, 2) := by decide +kernel
theorem dJ2_getChar_3b067_24 : decode cJ2_getChar_3b067 24 = .ok (.invokespecial 56, 3) := by decide +kernel
theorem dJ2_getChar_3b067_27 : decode cJ2_getChar_3b067 27 = .ok (.athrow, 1) := by decide +kernel
theorem dJ2_getChar_3b067_28 : decode cJ2_getChar_3b067 28 = .ok (.iload_n 1, 1) := by decide +kernel
theorem dJ2_getChar_3b067_29 : decode cJ2_getChar_3b067 29 = .ok (.iconst 1, 1) := by decide +kernel
theorem dJ2_getChar_3b067_30 : decode cJ2_getChar_3b067 30 = .ok (.ishl, 1) := by decide +kernel
theorem dJ2_getChar_3b067_31 : decode cJ2_getChar_3b067 31 = .ok (.istore_n 1, 1) := by decide +kernel
theorem dJ2_getChar_3b067_32 : decode cJ2_getChar_3b067 32 = .ok (.aload_n 0, 1) := by decide +kernel
theorem dJ2_getChar_3b067_33 : decode cJ2_getChar_3b067 33 = .ok (.iload_n 1, 1) := by decide +kernel
theorem dJ2_getChar_3b067_34 : decode cJ2_getChar_3b067 34 = .ok (.iinc 1 1, 3) := by decide +kernel
theorem dJ2_getChar_3b067_37 : decode cJ2_getChar_3b067 37 = .ok (.baload, 1) := by decide +kernel
theorem dJ2_getChar_3b067_38 : decode cJ2_getChar_3b067 38 = .ok (.sipush 255, 3) := by decide +kernel
theorem dJ2_getChar_3b067_41 : decode cJ2_getChar_3b067 41 = .ok (.iand, 1) := by decide +kernel
theorem dJ2_getChar_3b067_42 : decode cJ2_getChar_3b067 42 = .ok (.getstatic 59, 3) := by decide +kernel
theorem dJ2_getChar_3b067_45 : decode cJ2_getChar_3b067 45 = .ok (.ishl, 1) := by decide +kernel
theorem dJ2_getChar_3b067_46 : decode cJ2_getChar_3b067 46 = .ok (.aload_n 0, 1) := by decide +kernel
theorem dJ2_getChar_3b067_47 : decode cJ2_getChar_3b067 47 = .ok (.iload_n 1, 1) := by decide +kernel
theorem dJ2_getChar_3b067_48 : decode cJ2_getChar_3b067 48 = .ok (.baload, 1) := by decide +kernel
theorem dJ2_getChar_3b067_49 : decode cJ2_getChar_3b067 49 = .ok (.sipush 255, 3) := by decide +kernel
theorem dJ2_getChar_3b067_52 : decode cJ2_getChar_3b067 52 = .ok (.iand, 1) := by decide +kernel
theorem dJ2_getChar_3b067_53 : decode cJ2_getChar_3b067 53 = .ok (.getstatic 63, 3) := by decide +kernel
theorem dJ2_getChar_3b067_56 : decode cJ2_getChar_3b067 56 = .ok (.ishl, 1) := by decide +kernel
theorem dJ2_getChar_3b067_57 : decode cJ2_getChar_3b067 57 = .ok (.ior, 1) := by decide +kernel
theorem dJ2_getChar_3b067_58 : decode cJ2_getChar_3b067 58 = .ok (.i2c, 1) := by decide +kernel
theorem dJ2_getChar_3b067_59 : decode cJ2_getChar_3b067 59 = .ok (.ireturn, 1) := by decide +kernel
theorem dJ2_length_9d52b_0 : decode cJ2_length_9d52b 0 = .ok (.aload_n 0, 1) := by decide +kernel
theorem dJ2_length_9d52b_1 : decode cJ2_length_9d52b 1 = .ok (.arraylength, 1) := by decide +kernel
theorem dJ2_length_9d52b_2 : decode cJ2_length_9d52b 2 = .ok (.iconst 1, 1) := by decide +kernel
theorem dJ2_length_9d52b_3 : decode cJ2_length_9d52b 3 = .ok (.ishr, 1) := by decide +kernel
theorem dJ2_length_9d52b_4 : decode cJ2_length_9d52b 4 = .ok (.ireturn, 1) := by decide +kernel
theorem dJ2_indexOf_4cfef_0 : decode cJ2_indexOf_4cfef 0 = .ok (.iload_n 2, 1) := by decide +kernel
theorem dJ2_indexOf_4cfef_1 : decode cJ2_indexOf_4cfef 1 = .ok (.iconst 0, 1) := by decide +kernel
theorem dJ2_indexOf_4cfef_2 : decode cJ2_indexOf_4cfef 2 = .ok (.invokestatic 224, 3) := by decide +kernel
theorem dJ2_indexOf_4cfef_5 : decode cJ2_indexOf_4cfef 5 = .ok (.istore_n 2, 1) := by decide +kernel
theorem dJ2_indexOf_4cfef_6 : decode cJ2_indexOf_4cfef 6 = .ok (.iload_n 3, 1) := by decide +kernel
theorem dJ2_indexOf_4cfef_7 : decode cJ2_indexOf_4cfef 7 = .ok (.aload_n 0, 1) := by decide +kernel
theorem dJ2_indexOf_4cfef_8 : decode cJ2_indexOf_4cfef 8 = .ok (.arraylength, 1) := by decide +kernel
theorem dJ2_indexOf_4cfef_9 : decode cJ2_indexOf_4cfef 9 = .ok (.iconst 1, 1) := by decide +kernel
theorem dJ2_indexOf_4cfef_10 : decode cJ2_indexOf_4cfef 10 = .ok (.ishr, 1) := by decide +kernel
theorem dJ2_indexOf_4cfef_11 : decode cJ2_indexOf_4cfef 11 = .ok (.invokestatic 183, 3) := by decide +kernel
theorem dJ2_indexOf_4cfef_14 : decode cJ2_indexOf_4cfef 14 = .ok (.istore_n 3, 1) := by decide +kernel
theorem dJ2_indexOf_4cfef_15 : decode cJ2_indexOf_4cfef 15 = .ok (.iload_n 2, 1) := by decide +kernel
theorem dJ2_indexOf_4cfef_16 : decode cJ2_indexOf_4cfef 16 = .ok (.iload_n 3, 1) := by decide +kernel
