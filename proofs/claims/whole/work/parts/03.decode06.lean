theorem dX11_isTrue_95 : decode cX11_isTrue 95 = .ok (.iconst 1, 1) := by decide +kernel
theorem dX11_isTrue_96 : decode cX11_isTrue 96 = .ok (.iadd, 1) := by decide +kernel
theorem dX11_isTrue_97 : decode cX11_isTrue 97 = .ok (.istore_n 2, 1) := by decide +kernel
theorem dX11_isTrue_98 : decode cX11_isTrue 98 = .ok (.goto 139, 3) := by decide +kernel
theorem dX11_isTrue_101 : decode cX11_isTrue 101 = .ok (.iload 5, 2) := by decide +kernel
theorem dX11_isTrue_103 : decode cX11_isTrue 103 = .ok (.bipush 10, 2) := by decide +kernel
theorem dX11_isTrue_105 : decode cX11_isTrue 105 = .ok (.if_icmp .ne 24, 3) := by decide +kernel
theorem dX11_isTrue_108 : decode cX11_isTrue 108 = .ok (.aload_n 0, 1) := by decide +kernel
theorem dX11_isTrue_109 : decode cX11_isTrue 109 = .ok (.getfield 92, 3) := by decide +kernel
theorem dX11_isTrue_112 : decode cX11_isTrue 112 = .ok (.iload_n 2, 1) := by decide +kernel
theorem dX11_isTrue_113 : decode cX11_isTrue 113 = .ok (.iconst 1, 1) := by decide +kernel
theorem dX11_isTrue_114 : decode cX11_isTrue 114 = .ok (.isub, 1) := by decide +kernel
theorem dX11_isTrue_115 : decode cX11_isTrue 115 = .ok (.iconst 1, 1) := by decide +kernel
theorem dX11_isTrue_116 : decode cX11_isTrue 116 = .ok (.aload_n 0, 1) := by decide +kernel
theorem dX11_isTrue_117 : decode cX11_isTrue 117 = .ok (.getfield 92, 3) := by decide +kernel
theorem dX11_isTrue_120 : decode cX11_isTrue 120 = .ok (.iload_n 2, 1) := by decide +kernel
theorem dX11_isTrue_121 : decode cX11_isTrue 121 = .ok (.iconst 1, 1) := by decide +kernel
theorem dX11_isTrue_122 : decode cX11_isTrue 122 = .ok (.isub, 1) := by decide +kernel
theorem dX11_isTrue_123 : decode cX11_isTrue 123 = .ok (.iaload, 1) := by decide +kernel
theorem dX11_isTrue_124 : decode cX11_isTrue 124 = .ok (.isub, 1) := by decide +kernel
theorem dX11_isTrue_125 : decode cX11_isTrue 125 = .ok (.iastore, 1) := by decide +kernel
theorem dX11_isTrue_126 : decode cX11_isTrue 126 = .ok (.goto 111, 3) := by decide +kernel
theorem dX11_isTrue_129 : decode cX11_isTrue 129 = .ok (.iload 5, 2) := by decide +kernel
theorem dX11_isTrue_131 : decode cX11_isTrue 131 = .ok (.bipush 11, 2) := by decide +kernel
theorem dX11_isTrue_133 : decode cX11_isTrue 133 = .ok (.if_icmp .eq 10, 3) := by decide +kernel
theorem dX11_isTrue_136 : decode cX11_isTrue 136 = .ok (.iload 5, 2) := by decide +kernel
theorem dX11_isTrue_138 : decode cX11_isTrue 138 = .ok (.bipush 12, 2) := by decide +kernel
theorem dX11_isTrue_140 : decode cX11_isTrue 140 = .ok (.if_icmp .ne 42, 3) := by decide +kernel
theorem dX11_isTrue_143 : decode cX11_isTrue 143 = .ok (.aload_n 0, 1) := by decide +kernel
theorem dX11_isTrue_144 : decode cX11_isTrue 144 = .ok (.getfield 92, 3) := by decide +kernel
theorem dX11_isTrue_147 : decode cX11_isTrue 147 = .ok (.iload_n 2, 1) := by decide +kernel
theorem dX11_isTrue_148 : decode cX11_isTrue 148 = .ok (.iconst 1, 1) := by decide +kernel
theorem dX11_isTrue_149 : decode cX11_isTrue 149 = .ok (.isub, 1) := by decide +kernel
theorem dX11_isTrue_150 : decode cX11_isTrue 150 = .ok (.iaload, 1) := by decide +kernel
theorem dX11_isTrue_151 : decode cX11_isTrue 151 = .ok (.iload 5, 2) := by decide +kernel
theorem dX11_isTrue_153 : decode cX11_isTrue 153 = .ok (.bipush 12, 2) := by decide +kernel
theorem dX11_isTrue_155 : decode cX11_isTrue 155 = .ok (.if_icmp .ne 7, 3) := by decide +kernel
theorem dX11_isTrue_158 : decode cX11_isTrue 158 = .ok (.iconst 1, 1) := by decide +kernel
theorem dX11_isTrue_159 : decode cX11_isTrue 159 = .ok (.goto 4, 3) := by decide +kernel
theorem dX11_isTrue_162 : decode cX11_isTrue 162 = .ok (.iconst 0, 1) := by decide +kernel
theorem dX11_isTrue_163 : decode cX11_isTrue 163 = .ok (.if_icmp .ne 12, 3) := by decide +kernel
theorem dX11_isTrue_166 : decode cX11_isTrue 166 = .ok (.iload_n 3, 1) := by decide +kernel
theorem dX11_isTrue_167 : decode cX11_isTrue 167 = .ok (.iload 6, 2) := by decide +kernel
theorem dX11_isTrue_169 : decode cX11_isTrue 169 = .ok (.iadd, 1) := by decide +kernel
theorem dX11_isTrue_170 : decode cX11_isTrue 170 = .ok (.istore 4, 2) := by decide +kernel
theorem dX11_isTrue_172 : decode cX11_isTrue 172 = .ok (.goto 65, 3) := by decide +kernel
theorem dX11_isTrue_175 : decode cX11_isTrue 175 = .ok (.iload_n 2, 1) := by decide +kernel
theorem dX11_isTrue_176 : decode cX11_isTrue 176 = .ok (.iconst 1, 1) := by decide +kernel
theorem dX11_isTrue_177 : decode cX11_isTrue 177 = .ok (.isub, 1) := by decide +kernel
theorem dX11_isTrue_178 : decode cX11_isTrue 178 = .ok (.istore_n 2, 1) := by decide +kernel
theorem dX11_isTrue_179 : decode cX11_isTrue 179 = .ok (.goto 58, 3) := by decide +kernel
theorem dX11_isTrue_182 : decode cX11_isTrue 182 = .ok (.iload_n 2, 1) := by decide +kernel
theorem dX11_isTrue_183 : decode cX11_isTrue 183 = .ok (.iconst 1, 1) := by decide +kernel
theorem dX11_isTrue_184 : decode cX11_isTrue 184 = .ok (.isub, 1) := by decide +kernel
theorem dX11_isTrue_185 : decode cX11_isTrue 185 = .ok (.istore_n 2, 1) := by decide +kernel
theorem dX11_isTrue_186 : decode cX11_isTrue 186 = .ok (.iload 5, 2) := by decide +kernel
theorem dX11_isTrue_188 : decode cX11_isTrue 188 = .ok (.iconst 5, 1) := by decide +kernel
theorem dX11_isTrue_189 : decode cX11_isTrue 189 = .ok (.if_icmp .eq 10, 3) := by decide +kernel
theorem dX11_isTrue_192 : decode cX11_isTrue 192 = .ok (.iload 5, 2) := by decide +kernel
theorem dX11_isTrue_194 : decode cX11_isTrue 194 = .ok (.bipush 6, 2) := by decide +kernel
theorem dX11_isTrue_196 : decode cX11_isTrue 196 = .ok (.if_icmp .ne 14, 3) := by decide +kernel
theorem dX11_isTrue_199 : decode cX11_isTrue 199 = .ok (.aload_n 0, 1) := by decide +kernel
theorem dX11_isTrue_200 : decode cX11_isTrue 200 = .ok (.getfield 92, 3) := by decide +kernel
theorem dX11_isTrue_203 : decode cX11_isTrue 203 = .ok (.iload_n 2, 1) := by decide +kernel
theorem dX11_isTrue_204 : decode cX11_isTrue 204 = .ok (.iaload, 1) := by decide +kernel
theorem dX11_isTrue_205 : decode cX11_isTrue 205 = .ok (.ifCond .ne 5, 3) := by decide +kernel
theorem dX11_isTrue_208 : decode cX11_isTrue 208 = .ok (.iconst 0, 1) := by decide +kernel
theorem dX11_isTrue_209 : decode cX11_isTrue 209 = .ok (.ireturn, 1) := by decide +kernel
theorem dX11_isTrue_210 : decode cX11_isTrue 210 = .ok (.aload_n 0, 1) := by decide +kernel
theorem dX11_isTrue_211 : decode cX11_isTrue 211 = .ok (.getfield 92, 3) := by decide +kernel
theorem dX11_isTrue_214 : decode cX11_isTrue 214 = .ok (.iload_n 2, 1) := by decide +kernel
theorem dX11_isTrue_215 : decode cX11_isTrue 215 = .ok (.iconst 1, 1) := by decide +kernel
theorem dX11_isTrue_216 : decode cX11_isTrue 216 = .ok (.isub, 1) := by decide +kernel
theorem dX11_isTrue_217 : decode cX11_isTrue 217 = .ok (.iload 5, 2) := by decide +kernel
theorem dX11_isTrue_219 : decode cX11_isTrue 219 = .ok (.aload_n 0, 1) := by decide +kernel
theorem dX11_isTrue_220 : decode cX11_isTrue 220 = .ok (.getfield 92, 3) := by decide +kernel
theorem dX11_isTrue_223 : decode cX11_isTrue 223 = .ok (.iload_n 2, 1) := by decide +kernel
theorem dX11_isTrue_224 : decode cX11_isTrue 224 = .ok (.iconst 1, 1) := by decide +kernel
theorem dX11_isTrue_225 : decode cX11_isTrue 225 = .ok (.isub, 1) := by decide +kernel
theorem dX11_isTrue_226 : decode cX11_isTrue 226 = .ok (.iaload, 1) := by decide +kernel
theorem dX11_isTrue_227 : decode cX11_isTrue 227 = .ok (.aload_n 0, 1) := by decide +kernel
theorem dX11_isTrue_228 : decode cX11_isTrue 228 = .ok (.getfield 92, 3) := by decide +kernel
theorem dX11_isTrue_231 : decode cX11_isTrue 231 = .ok (.iload_n 2, 1) := by decide +kernel
theorem dX11_isTrue_232 : decode cX11_isTrue 232 = .ok (.iaload, 1) := by decide +kernel
theorem dX11_isTrue_233 : decode cX11_isTrue 233 = .ok (.invokestatic 296, 3) := by decide +kernel
theorem dX11_isTrue_236 : decode cX11_isTrue 236 = .ok (.iastore, 1) := by decide +kernel
theorem dX11_isTrue_237 : decode cX11_isTrue 237 = .ok (.goto (-218), 3) := by decide +kernel
theorem dX11_isTrue_240 : decode cX11_isTrue 240 = .ok (.aload_n 0, 1) := by decide +kernel
theorem dX11_isTrue_241 : decode cX11_isTrue 241 = .ok (.getfield 92, 3) := by decide +kernel
theorem dX11_isTrue_244 : decode cX11_isTrue 244 = .ok (.iconst 0, 1) := by decide +kernel
theorem dX11_isTrue_245 : decode cX11_isTrue 245 = .ok (.iaload, 1) := by decide +kernel
theorem dX11_isTrue_246 : decode cX11_isTrue 246 = .ok (.iconst 1, 1) := by decide +kernel
theorem dX11_isTrue_247 : decode cX11_isTrue 247 = .ok (.if_icmp .ne 7, 3) := by decide +kernel
theorem dX11_isTrue_250 : decode cX11_isTrue 250 = .ok (.iconst 1, 1) := by decide +kernel
theorem dX11_isTrue_251 : decode cX11_isTrue 251 = .ok (.goto 4, 3) := by decide +kernel
theorem dX11_isTrue_254 : decode cX11_isTrue 254 = .ok (.iconst 0, 1) := by decide +kernel
theorem dX11_isTrue_255 : decode cX11_isTrue 255 = .ok (.ireturn, 1) := by decide +kernel
theorem dX11_target_0 : decode cX11_target 0 = .ok (.bipush 22, 2) := by decide +kernel
theorem dX11_target_2 : decode cX11_target 2 = .ok (.iload_n 2, 1) := by decide +kernel
theorem dX11_target_3 : decode cX11_target 3 = .ok (.imul, 1) := by decide +kernel
theorem dX11_target_4 : decode cX11_target 4 = .ok (.iload_n 3, 1) := by decide +kernel
theorem dX11_target_5 : decode cX11_target 5 = .ok (.iadd, 1) := by decide +kernel
theorem dX11_target_6 : decode cX11_target 6 = .ok (.istore 6, 2) := by decide +kernel
theorem dX11_target_8 : decode cX11_target 8 = .ok (.aload_n 0, 1) := by decide +kernel
theorem dX11_target_9 : decode cX11_target 9 = .ok (.getfield 52, 3) := by decide +kernel
theorem dX11_target_12 : decode cX11_target 12 = .ok (.bipush 9, 2) := by decide +kernel
theorem dX11_target_14 : decode cX11_target 14 = .ok (.iload_n 1, 1) := by decide +kernel
theorem dX11_target_15 : decode cX11_target 15 = .ok (.imul, 1) := by decide +kernel
theorem dX11_target_16 : decode cX11_target 16 = .ok (.iload 4, 2) := by decide +kernel
theorem dX11_target_18 : decode cX11_target 18 = .ok (.iadd, 1) := by decide +kernel
theorem dX11_target_19 : decode cX11_target 19 = .ok (.iaload, 1) := by decide +kernel
theorem dX11_target_20 : decode cX11_target 20 = .ok (.tableswitch 90 0 4 #[36, 38, 46, 69, 82], 36) := by decide +kernel
theorem dX11_target_56 : decode cX11_target 56 = .ok (.iload_n 1, 1) := by decide +kernel
theorem dX11_target_57 : decode cX11_target 57 = .ok (.ireturn, 1) := by decide +kernel
theorem dX11_target_58 : decode cX11_target 58 = .ok (.aload_n 0, 1) := by decide +kernel
theorem dX11_target_59 : decode cX11_target 59 = .ok (.getfield 34, 3) := by decide +kernel
theorem dX11_target_62 : decode cX11_target 62 = .ok (.iload 6, 2) := by decide +kernel
theorem dX11_target_64 : decode cX11_target 64 = .ok (.iaload, 1) := by decide +kernel
theorem dX11_target_65 : decode cX11_target 65 = .ok (.ireturn, 1) := by decide +kernel
theorem dX11_target_66 : decode cX11_target 66 = .ok (.iload_n 3, 1) := by decide +kernel
theorem dX11_target_67 : decode cX11_target 67 = .ok (.ifCond .ne 12, 3) := by decide +kernel
theorem dX11_target_70 : decode cX11_target 70 = .ok (.aload_n 0, 1) := by decide +kernel
theorem dX11_target_71 : decode cX11_target 71 = .ok (.getfield 22, 3) := by decide +kernel
theorem dX11_target_74 : decode cX11_target 74 = .ok (.iload_n 2, 1) := by decide +kernel
theorem dX11_target_75 : decode cX11_target 75 = .ok (.iaload, 1) := by decide +kernel
theorem dX11_target_76 : decode cX11_target 76 = .ok (.goto 12, 3) := by decide +kernel
theorem dX11_target_79 : decode cX11_target 79 = .ok (.aload_n 0, 1) := by decide +kernel
theorem dX11_target_80 : decode cX11_target 80 = .ok (.getfield 34, 3) := by decide +kernel
theorem dX11_target_83 : decode cX11_target 83 = .ok (.iload 6, 2) := by decide +kernel
theorem dX11_target_85 : decode cX11_target 85 = .ok (.iconst 1, 1) := by decide +kernel
theorem dX11_target_86 : decode cX11_target 86 = .ok (.isub, 1) := by decide +kernel
theorem dX11_target_87 : decode cX11_target 87 = .ok (.iaload, 1) := by decide +kernel
theorem dX11_target_88 : decode cX11_target 88 = .ok (.ireturn, 1) := by decide +kernel
theorem dX11_target_89 : decode cX11_target 89 = .ok (.aload_n 0, 1) := by decide +kernel
theorem dX11_target_90 : decode cX11_target 90 = .ok (.getfield 7, 3) := by decide +kernel
theorem dX11_target_93 : decode cX11_target 93 = .ok (.aload_n 0, 1) := by decide +kernel
theorem dX11_target_94 : decode cX11_target 94 = .ok (.getfield 31, 3) := by decide +kernel
theorem dX11_target_97 : decode cX11_target 97 = .ok (.iload 6, 2) := by decide +kernel
theorem dX11_target_99 : decode cX11_target 99 = .ok (.iaload, 1) := by decide +kernel
theorem dX11_target_100 : decode cX11_target 100 = .ok (.iaload, 1) := by decide +kernel
theorem dX11_target_101 : decode cX11_target 101 = .ok (.ireturn, 1) := by decide +kernel
theorem dX11_target_102 : decode cX11_target 102 = .ok (.aload_n 0, 1) := by decide +kernel
theorem dX11_target_103 : decode cX11_target 103 = .ok (.getfield 7, 3) := by decide +kernel
theorem dX11_target_106 : decode cX11_target 106 = .ok (.iload 5, 2) := by decide +kernel
theorem dX11_target_108 : decode cX11_target 108 = .ok (.iaload, 1) := by decide +kernel
theorem dX11_target_109 : decode cX11_target 109 = .ok (.ireturn, 1) := by decide +kernel
theorem dX11_target_110 : decode cX11_target 110 = .ok (.aload_n 0, 1) := by decide +kernel
theorem dX11_target_111 : decode cX11_target 111 = .ok (.getfield 22, 3) := by decide +kernel
theorem dX11_target_114 : decode cX11_target 114 = .ok (.iload_n 2, 1) := by decide +kernel
theorem dX11_target_115 : decode cX11_target 115 = .ok (.iaload, 1) := by decide +kernel
theorem dX11_target_116 : decode cX11_target 116 = .ok (.ireturn, 1) := by decide +kernel
theorem dX11_ruler_0 : decode cX11_ruler 0 = .ok (.iconst 1, 1) := by decide +kernel
theorem dX11_ruler_1 : decode cX11_ruler 1 = .ok (.iload_n 1, 1) := by decide +kernel
theorem dX11_ruler_2 : decode cX11_ruler 2 = .ok (.ishl, 1) := by decide +kernel
theorem dX11_ruler_3 : decode cX11_ruler 3 = .ok (.istore 6, 2) := by decide +kernel
theorem dX11_ruler_5 : decode cX11_ruler 5 = .ok (.iload_n 1, 1) := by decide +kernel
theorem dX11_ruler_6 : decode cX11_ruler 6 = .ok (.istore 7, 2) := by decide +kernel
theorem dX11_ruler_8 : decode cX11_ruler 8 = .ok (.aload_n 0, 1) := by decide +kernel
theorem dX11_ruler_9 : decode cX11_ruler 9 = .ok (.iconst 0, 1) := by decide +kernel
theorem dX11_ruler_10 : decode cX11_ruler 10 = .ok (.putfield 300, 3) := by decide +kernel
theorem dX11_ruler_13 : decode cX11_ruler 13 = .ok (.aload_n 0, 1) := by decide +kernel
theorem dX11_ruler_14 : decode cX11_ruler 14 = .ok (.iload 7, 2) := by decide +kernel
theorem dX11_ruler_16 : decode cX11_ruler 16 = .ok (.iload_n 2, 1) := by decide +kernel
theorem dX11_ruler_17 : decode cX11_ruler 17 = .ok (.iload_n 3, 1) := by decide +kernel
theorem dX11_ruler_18 : decode cX11_ruler 18 = .ok (.iload 4, 2) := by decide +kernel
theorem dX11_ruler_20 : decode cX11_ruler 20 = .ok (.iload 5, 2) := by decide +kernel
theorem dX11_ruler_22 : decode cX11_ruler 22 = .ok (.invokevirtual 304, 3) := by decide +kernel
theorem dX11_ruler_25 : decode cX11_ruler 25 = .ok (.istore 8, 2) := by decide +kernel
theorem dX11_ruler_27 : decode cX11_ruler 27 = .ok (.iload 8, 2) := by decide +kernel
theorem dX11_ruler_29 : decode cX11_ruler 29 = .ok (.iload 7, 2) := by decide +kernel
theorem dX11_ruler_31 : decode cX11_ruler 31 = .ok (.if_icmp .ne 6, 3) := by decide +kernel
theorem dX11_ruler_34 : decode cX11_ruler 34 = .ok (.iload 7, 2) := by decide +kernel
theorem dX11_ruler_36 : decode cX11_ruler 36 = .ok (.ireturn, 1) := by decide +kernel
theorem dX11_ruler_37 : decode cX11_ruler 37 = .ok (.iload 6, 2) := by decide +kernel
theorem dX11_ruler_39 : decode cX11_ruler 39 = .ok (.iload 8, 2) := by decide +kernel
theorem dX11_ruler_41 : decode cX11_ruler 41 = .ok (.ishr, 1) := by decide +kernel
theorem dX11_ruler_42 : decode cX11_ruler 42 = .ok (.iconst 1, 1) := by decide +kernel
theorem dX11_ruler_43 : decode cX11_ruler 43 = .ok (.iand, 1) := by decide +kernel
theorem dX11_ruler_44 : decode cX11_ruler 44 = .ok (.iconst 1, 1) := by decide +kernel
theorem dX11_ruler_45 : decode cX11_ruler 45 = .ok (.if_icmp .ne 10, 3) := by decide +kernel
theorem dX11_ruler_48 : decode cX11_ruler 48 = .ok (.aload_n 0, 1) := by decide +kernel
theorem dX11_ruler_49 : decode cX11_ruler 49 = .ok (.iconst 1, 1) := by decide +kernel
theorem dX11_ruler_50 : decode cX11_ruler 50 = .ok (.putfield 300, 3) := by decide +kernel
theorem dX11_ruler_53 : decode cX11_ruler 53 = .ok (.iload_n 1, 1) := by decide +kernel
theorem dX11_ruler_54 : decode cX11_ruler 54 = .ok (.ireturn, 1) := by decide +kernel
theorem dX11_ruler_55 : decode cX11_ruler 55 = .ok (.iload 6, 2) := by decide +kernel
theorem dX11_ruler_57 : decode cX11_ruler 57 = .ok (.iconst 1, 1) := by decide +kernel
theorem dX11_ruler_58 : decode cX11_ruler 58 = .ok (.iload 8, 2) := by decide +kernel
theorem dX11_ruler_60 : decode cX11_ruler 60 = .ok (.ishl, 1) := by decide +kernel
theorem dX11_ruler_61 : decode cX11_ruler 61 = .ok (.ior, 1) := by decide +kernel
theorem dX11_ruler_62 : decode cX11_ruler 62 = .ok (.istore 6, 2) := by decide +kernel
theorem dX11_ruler_64 : decode cX11_ruler 64 = .ok (.iload 8, 2) := by decide +kernel
theorem dX11_ruler_66 : decode cX11_ruler 66 = .ok (.istore 7, 2) := by decide +kernel
theorem dX11_ruler_68 : decode cX11_ruler 68 = .ok (.goto (-55), 3) := by decide +kernel
theorem dX11_hasSuch_0 : decode cX11_hasSuch 0 = .ok (.iload_n 2, 1) := by decide +kernel
theorem dX11_hasSuch_1 : decode cX11_hasSuch 1 = .ok (.bipush 115, 2) := by decide +kernel
theorem dX11_hasSuch_3 : decode cX11_hasSuch 3 = .ok (.if_icmp .ne 17, 3) := by decide +kernel
theorem dX11_hasSuch_6 : decode cX11_hasSuch 6 = .ok (.aload_n 0, 1) := by decide +kernel
theorem dX11_hasSuch_7 : decode cX11_hasSuch 7 = .ok (.getfield 308, 3) := by decide +kernel
theorem dX11_hasSuch_10 : decode cX11_hasSuch 10 = .ok (.iload_n 1, 1) := by decide +kernel
theorem dX11_hasSuch_11 : decode cX11_hasSuch 11 = .ok (.ishr, 1) := by decide +kernel
theorem dX11_hasSuch_12 : decode cX11_hasSuch 12 = .ok (.iconst 1, 1) := by decide +kernel
theorem dX11_hasSuch_13 : decode cX11_hasSuch 13 = .ok (.iand, 1) := by decide +kernel
theorem dX11_hasSuch_14 : decode cX11_hasSuch 14 = .ok (.iconst 1, 1) := by decide +kernel
theorem dX11_hasSuch_15 : decode cX11_hasSuch 15 = .ok (.if_icmp .ne 5, 3) := by decide +kernel
theorem dX11_hasSuch_18 : decode cX11_hasSuch 18 = .ok (.iconst 0, 1) := by decide +kernel
theorem dX11_hasSuch_19 : decode cX11_hasSuch 19 = .ok (.ireturn, 1) := by decide +kernel
theorem dX11_hasSuch_20 : decode cX11_hasSuch 20 = .ok (.bipush 12, 2) := by decide +kernel
theorem dX11_hasSuch_22 : decode cX11_hasSuch 22 = .ok (.iload_n 1, 1) := by decide +kernel
theorem dX11_hasSuch_23 : decode cX11_hasSuch 23 = .ok (.imul, 1) := by decide +kernel
theorem dX11_hasSuch_24 : decode cX11_hasSuch 24 = .ok (.istore_n 3, 1) := by decide +kernel
theorem dX11_hasSuch_25 : decode cX11_hasSuch 25 = .ok (.iload_n 3, 1) := by decide +kernel
theorem dX11_hasSuch_26 : decode cX11_hasSuch 26 = .ok (.bipush 12, 2) := by decide +kernel
theorem dX11_hasSuch_28 : decode cX11_hasSuch 28 = .ok (.iload_n 1, 1) := by decide +kernel
theorem dX11_hasSuch_29 : decode cX11_hasSuch 29 = .ok (.imul, 1) := by decide +kernel
theorem dX11_hasSuch_30 : decode cX11_hasSuch 30 = .ok (.aload_n 0, 1) := by decide +kernel
theorem dX11_hasSuch_31 : decode cX11_hasSuch 31 = .ok (.getfield 80, 3) := by decide +kernel
theorem dX11_hasSuch_34 : decode cX11_hasSuch 34 = .ok (.iload_n 1, 1) := by decide +kernel
theorem dX11_hasSuch_35 : decode cX11_hasSuch 35 = .ok (.iaload, 1) := by decide +kernel
theorem dX11_hasSuch_36 : decode cX11_hasSuch 36 = .ok (.iadd, 1) := by decide +kernel
theorem dX11_hasSuch_37 : decode cX11_hasSuch 37 = .ok (.if_icmp .ge 29, 3) := by decide +kernel
theorem dX11_hasSuch_40 : decode cX11_hasSuch 40 = .ok (.aload_n 0, 1) := by decide +kernel
theorem dX11_hasSuch_41 : decode cX11_hasSuch 41 = .ok (.getfield 83, 3) := by decide +kernel
theorem dX11_hasSuch_44 : decode cX11_hasSuch 44 = .ok (.iload_n 3, 1) := by decide +kernel
theorem dX11_hasSuch_45 : decode cX11_hasSuch 45 = .ok (.iaload, 1) := by decide +kernel
theorem dX11_hasSuch_46 : decode cX11_hasSuch 46 = .ok (.iload_n 2, 1) := by decide +kernel
theorem dX11_hasSuch_47 : decode cX11_hasSuch 47 = .ok (.if_icmp .ne 13, 3) := by decide +kernel
theorem dX11_hasSuch_50 : decode cX11_hasSuch 50 = .ok (.aload_n 0, 1) := by decide +kernel
theorem dX11_hasSuch_51 : decode cX11_hasSuch 51 = .ok (.iload_n 3, 1) := by decide +kernel
theorem dX11_hasSuch_52 : decode cX11_hasSuch 52 = .ok (.invokevirtual 311, 3) := by decide +kernel
theorem dX11_hasSuch_55 : decode cX11_hasSuch 55 = .ok (.ifCond .eq 5, 3) := by decide +kernel
theorem dX11_hasSuch_58 : decode cX11_hasSuch 58 = .ok (.iconst 1, 1) := by decide +kernel
theorem dX11_hasSuch_59 : decode cX11_hasSuch 59 = .ok (.ireturn, 1) := by decide +kernel
theorem dX11_hasSuch_60 : decode cX11_hasSuch 60 = .ok (.iinc 3 1, 3) := by decide +kernel
theorem dX11_hasSuch_63 : decode cX11_hasSuch 63 = .ok (.goto (-38), 3) := by decide +kernel
theorem dX11_hasSuch_66 : decode cX11_hasSuch 66 = .ok (.iconst 0, 1) := by decide +kernel
theorem dX11_hasSuch_67 : decode cX11_hasSuch 67 = .ok (.ireturn, 1) := by decide +kernel
theorem dX11_feels_0 : decode cX11_feels 0 = .ok (.bipush 22, 2) := by decide +kernel
theorem dX11_feels_2 : decode cX11_feels 2 = .ok (.iload_n 1, 1) := by decide +kernel
theorem dX11_feels_3 : decode cX11_feels 3 = .ok (.imul, 1) := by decide +kernel
theorem dX11_feels_4 : decode cX11_feels 4 = .ok (.iload_n 2, 1) := by decide +kernel
theorem dX11_feels_5 : decode cX11_feels 5 = .ok (.iadd, 1) := by decide +kernel
theorem dX11_feels_6 : decode cX11_feels 6 = .ok (.istore 8, 2) := by decide +kernel
theorem dX11_feels_8 : decode cX11_feels 8 = .ok (.aload_n 0, 1) := by decide +kernel
theorem dX11_feels_9 : decode cX11_feels 9 = .ok (.getfield 95, 3) := by decide +kernel
theorem dX11_feels_12 : decode cX11_feels 12 = .ok (.iconst 0, 1) := by decide +kernel
theorem dX11_feels_13 : decode cX11_feels 13 = .ok (.aload_n 0, 1) := by decide +kernel
theorem dX11_feels_14 : decode cX11_feels 14 = .ok (.getfield 98, 3) := by decide +kernel
theorem dX11_feels_17 : decode cX11_feels 17 = .ok (.iload_n 2, 1) := by decide +kernel
theorem dX11_feels_18 : decode cX11_feels 18 = .ok (.iaload, 1) := by decide +kernel
theorem dX11_feels_19 : decode cX11_feels 19 = .ok (.iastore, 1) := by decide +kernel
theorem dX11_feels_20 : decode cX11_feels 20 = .ok (.aload_n 0, 1) := by decide +kernel
theorem dX11_feels_21 : decode cX11_feels 21 = .ok (.getfield 95, 3) := by decide +kernel
theorem dX11_feels_24 : decode cX11_feels 24 = .ok (.iconst 1, 1) := by decide +kernel
theorem dX11_feels_25 : decode cX11_feels 25 = .ok (.aload_n 0, 1) := by decide +kernel
theorem dX11_feels_26 : decode cX11_feels 26 = .ok (.getfield 43, 3) := by decide +kernel
theorem dX11_feels_29 : decode cX11_feels 29 = .ok (.iload 8, 2) := by decide +kernel
theorem dX11_feels_31 : decode cX11_feels 31 = .ok (.iaload, 1) := by decide +kernel
theorem dX11_feels_32 : decode cX11_feels 32 = .ok (.iconst 1, 1) := by decide +kernel
theorem dX11_feels_33 : decode cX11_feels 33 = .ok (.iand, 1) := by decide +kernel
theorem dX11_feels_34 : decode cX11_feels 34 = .ok (.iastore, 1) := by decide +kernel
theorem dX11_feels_35 : decode cX11_feels 35 = .ok (.aload_n 0, 1) := by decide +kernel
theorem dX11_feels_36 : decode cX11_feels 36 = .ok (.getfield 95, 3) := by decide +kernel
theorem dX11_feels_39 : decode cX11_feels 39 = .ok (.iconst 2, 1) := by decide +kernel
theorem dX11_feels_40 : decode cX11_feels 40 = .ok (.aload_n 0, 1) := by decide +kernel
theorem dX11_feels_41 : decode cX11_feels 41 = .ok (.getfield 43, 3) := by decide +kernel
theorem dX11_feels_44 : decode cX11_feels 44 = .ok (.iload 8, 2) := by decide +kernel
theorem dX11_feels_46 : decode cX11_feels 46 = .ok (.iaload, 1) := by decide +kernel
theorem dX11_feels_47 : decode cX11_feels 47 = .ok (.iconst 1, 1) := by decide +kernel
theorem dX11_feels_48 : decode cX11_feels 48 = .ok (.ishr, 1) := by decide +kernel
theorem dX11_feels_49 : decode cX11_feels 49 = .ok (.iconst 1, 1) := by decide +kernel
theorem dX11_feels_50 : decode cX11_feels 50 = .ok (.iand, 1) := by decide +kernel
theorem dX11_feels_51 : decode cX11_feels 51 = .ok (.iastore, 1) := by decide +kernel
theorem dX11_feels_52 : decode cX11_feels 52 = .ok (.aload_n 0, 1) := by decide +kernel
theorem dX11_feels_53 : decode cX11_feels 53 = .ok (.getfield 95, 3) := by decide +kernel
theorem dX11_feels_56 : decode cX11_feels 56 = .ok (.iconst 3, 1) := by decide +kernel
theorem dX11_feels_57 : decode cX11_feels 57 = .ok (.aload_n 0, 1) := by decide +kernel
theorem dX11_feels_58 : decode cX11_feels 58 = .ok (.iload_n 1, 1) := by decide +kernel
theorem dX11_feels_59 : decode cX11_feels 59 = .ok (.iload_n 2, 1) := by decide +kernel
theorem dX11_feels_60 : decode cX11_feels 60 = .ok (.invokevirtual 195, 3) := by decide +kernel
theorem dX11_feels_63 : decode cX11_feels 63 = .ok (.aload_n 0, 1) := by decide +kernel
theorem dX11_feels_64 : decode cX11_feels 64 = .ok (.iload_n 1, 1) := by decide +kernel
theorem dX11_feels_65 : decode cX11_feels 65 = .ok (.iload_n 2, 1) := by decide +kernel
theorem dX11_feels_66 : decode cX11_feels 66 = .ok (.invokevirtual 176, 3) := by decide +kernel
theorem dX11_feels_69 : decode cX11_feels 69 = .ok (.if_icmp .ne 7, 3) := by decide +kernel
theorem dX11_feels_72 : decode cX11_feels 72 = .ok (.iconst 1, 1) := by decide +kernel
theorem dX11_feels_73 : decode cX11_feels 73 = .ok (.goto 4, 3) := by decide +kernel
theorem dX11_feels_76 : decode cX11_feels 76 = .ok (.iconst 0, 1) := by decide +kernel
theorem dX11_feels_77 : decode cX11_feels 77 = .ok (.iastore, 1) := by decide +kernel
theorem dX11_feels_78 : decode cX11_feels 78 = .ok (.aload_n 0, 1) := by decide +kernel
theorem dX11_feels_79 : decode cX11_feels 79 = .ok (.getfield 95, 3) := by decide +kernel
theorem dX11_feels_82 : decode cX11_feels 82 = .ok (.iconst 4, 1) := by decide +kernel
theorem dX11_feels_83 : decode cX11_feels 83 = .ok (.iload 4, 2) := by decide +kernel
theorem dX11_feels_85 : decode cX11_feels 85 = .ok (.iastore, 1) := by decide +kernel
theorem dX11_feels_86 : decode cX11_feels 86 = .ok (.aload_n 0, 1) := by decide +kernel
theorem dX11_feels_87 : decode cX11_feels 87 = .ok (.getfield 95, 3) := by decide +kernel
theorem dX11_feels_90 : decode cX11_feels 90 = .ok (.iconst 5, 1) := by decide +kernel
theorem dX11_feels_91 : decode cX11_feels 91 = .ok (.aload_n 0, 1) := by decide +kernel
theorem dX11_feels_92 : decode cX11_feels 92 = .ok (.getfield 40, 3) := by decide +kernel
theorem dX11_feels_95 : decode cX11_feels 95 = .ok (.iload 8, 2) := by decide +kernel
theorem dX11_feels_97 : decode cX11_feels 97 = .ok (.iaload, 1) := by decide +kernel
theorem dX11_feels_98 : decode cX11_feels 98 = .ok (.iastore, 1) := by decide +kernel
theorem dX11_feels_99 : decode cX11_feels 99 = .ok (.aload_n 0, 1) := by decide +kernel
theorem dX11_feels_100 : decode cX11_feels 100 = .ok (.getfield 95, 3) := by decide +kernel
theorem dX11_feels_103 : decode cX11_feels 103 = .ok (.bipush 6, 2) := by decide +kernel
theorem dX11_feels_105 : decode cX11_feels 105 = .ok (.aload_n 0, 1) := by decide +kernel
theorem dX11_feels_106 : decode cX11_feels 106 = .ok (.getfield 16, 3) := by decide +kernel
theorem dX11_feels_109 : decode cX11_feels 109 = .ok (.iload_n 1, 1) := by decide +kernel
theorem dX11_feels_110 : decode cX11_feels 110 = .ok (.iaload, 1) := by decide +kernel
theorem dX11_feels_111 : decode cX11_feels 111 = .ok (.iastore, 1) := by decide +kernel
theorem dX11_feels_112 : decode cX11_feels 112 = .ok (.aload_n 0, 1) := by decide +kernel
theorem dX11_feels_113 : decode cX11_feels 113 = .ok (.getfield 95, 3) := by decide +kernel
theorem dX11_feels_116 : decode cX11_feels 116 = .ok (.bipush 7, 2) := by decide +kernel
theorem dX11_feels_118 : decode cX11_feels 118 = .ok (.iload 7, 2) := by decide +kernel
theorem dX11_feels_120 : decode cX11_feels 120 = .ok (.iastore, 1) := by decide +kernel
theorem dX11_feels_121 : decode cX11_feels 121 = .ok (.aload_n 0, 1) := by decide +kernel
theorem dX11_feels_122 : decode cX11_feels 122 = .ok (.getfield 95, 3) := by decide +kernel
theorem dX11_feels_125 : decode cX11_feels 125 = .ok (.bipush 8, 2) := by decide +kernel
theorem dX11_feels_127 : decode cX11_feels 127 = .ok (.iload 5, 2) := by decide +kernel
theorem dX11_feels_129 : decode cX11_feels 129 = .ok (.iastore, 1) := by decide +kernel
theorem dX11_feels_130 : decode cX11_feels 130 = .ok (.aload_n 0, 1) := by decide +kernel
theorem dX11_feels_131 : decode cX11_feels 131 = .ok (.getfield 95, 3) := by decide +kernel
theorem dX11_feels_134 : decode cX11_feels 134 = .ok (.bipush 9, 2) := by decide +kernel
theorem dX11_feels_136 : decode cX11_feels 136 = .ok (.iload 6, 2) := by decide +kernel
theorem dX11_feels_138 : decode cX11_feels 138 = .ok (.iastore, 1) := by decide +kernel
theorem dX11_feels_139 : decode cX11_feels 139 = .ok (.aload_n 0, 1) := by decide +kernel
theorem dX11_feels_140 : decode cX11_feels 140 = .ok (.getfield 95, 3) := by decide +kernel
theorem dX11_feels_143 : decode cX11_feels 143 = .ok (.bipush 10, 2) := by decide +kernel
theorem dX11_feels_145 : decode cX11_feels 145 = .ok (.aload_n 0, 1) := by decide +kernel
theorem dX11_feels_146 : decode cX11_feels 146 = .ok (.getfield 34, 3) := by decide +kernel
theorem dX11_feels_149 : decode cX11_feels 149 = .ok (.iload 8, 2) := by decide +kernel
theorem dX11_feels_151 : decode cX11_feels 151 = .ok (.iaload, 1) := by decide +kernel
theorem dX11_feels_152 : decode cX11_feels 152 = .ok (.iastore, 1) := by decide +kernel
theorem dX11_feels_153 : decode cX11_feels 153 = .ok (.aload_n 0, 1) := by decide +kernel
theorem dX11_feels_154 : decode cX11_feels 154 = .ok (.getfield 95, 3) := by decide +kernel
theorem dX11_feels_157 : decode cX11_feels 157 = .ok (.bipush 11, 2) := by decide +kernel
theorem dX11_feels_159 : decode cX11_feels 159 = .ok (.aload_n 0, 1) := by decide +kernel
theorem dX11_feels_160 : decode cX11_feels 160 = .ok (.getfield 7, 3) := by decide +kernel
theorem dX11_feels_163 : decode cX11_feels 163 = .ok (.aload_n 0, 1) := by decide +kernel
theorem dX11_feels_164 : decode cX11_feels 164 = .ok (.getfield 31, 3) := by decide +kernel
theorem dX11_feels_167 : decode cX11_feels 167 = .ok (.iload 8, 2) := by decide +kernel
theorem dX11_feels_169 : decode cX11_feels 169 = .ok (.iaload, 1) := by decide +kernel
theorem dX11_feels_170 : decode cX11_feels 170 = .ok (.iaload, 1) := by decide +kernel
theorem dX11_feels_171 : decode cX11_feels 171 = .ok (.iastore, 1) := by decide +kernel
theorem dX11_feels_172 : decode cX11_feels 172 = .ok (.aload_n 0, 1) := by decide +kernel
theorem dX11_feels_173 : decode cX11_feels 173 = .ok (.getfield 95, 3) := by decide +kernel
theorem dX11_feels_176 : decode cX11_feels 176 = .ok (.bipush 12, 2) := by decide +kernel
theorem dX11_feels_178 : decode cX11_feels 178 = .ok (.aload_n 0, 1) := by decide +kernel
theorem dX11_feels_179 : decode cX11_feels 179 = .ok (.getfield 7, 3) := by decide +kernel
theorem dX11_feels_182 : decode cX11_feels 182 = .ok (.iload_n 3, 1) := by decide +kernel
theorem dX11_feels_183 : decode cX11_feels 183 = .ok (.iaload, 1) := by decide +kernel
theorem dX11_feels_184 : decode cX11_feels 184 = .ok (.iastore, 1) := by decide +kernel
theorem dX11_feels_185 : decode cX11_feels 185 = .ok (.return_, 1) := by decide +kernel
theorem dX11_letterBy_0 : decode cX11_letterBy 0 = .ok (.iload_n 0, 1) := by decide +kernel
theorem dX11_letterBy_1 : decode cX11_letterBy 1 = .ok (.ifCond .ne 8, 3) := by decide +kernel
theorem dX11_letterBy_4 : decode cX11_letterBy 4 = .ok (.bipush 115, 2) := by decide +kernel
theorem dX11_letterBy_6 : decode cX11_letterBy 6 = .ok (.goto 46, 3) := by decide +kernel
theorem dX11_letterBy_9 : decode cX11_letterBy 9 = .ok (.iload_n 0, 1) := by decide +kernel
theorem dX11_letterBy_10 : decode cX11_letterBy 10 = .ok (.iconst 1, 1) := by decide +kernel
theorem dX11_letterBy_11 : decode cX11_letterBy 11 = .ok (.if_icmp .ne 8, 3) := by decide +kernel
theorem dX11_letterBy_14 : decode cX11_letterBy 14 = .ok (.bipush 103, 2) := by decide +kernel
theorem dX11_letterBy_16 : decode cX11_letterBy 16 = .ok (.goto 36, 3) := by decide +kernel
theorem dX11_letterBy_19 : decode cX11_letterBy 19 = .ok (.iload_n 0, 1) := by decide +kernel
theorem dX11_letterBy_20 : decode cX11_letterBy 20 = .ok (.iconst 2, 1) := by decide +kernel
theorem dX11_letterBy_21 : decode cX11_letterBy 21 = .ok (.if_icmp .ne 8, 3) := by decide +kernel
theorem dX11_letterBy_24 : decode cX11_letterBy 24 = .ok (.bipush 119, 2) := by decide +kernel
theorem dX11_letterBy_26 : decode cX11_letterBy 26 = .ok (.goto 26, 3) := by decide +kernel
theorem dX11_letterBy_29 : decode cX11_letterBy 29 = .ok (.iload_n 0, 1) := by decide +kernel
theorem dX11_letterBy_30 : decode cX11_letterBy 30 = .ok (.bipush 6, 2) := by decide +kernel
theorem dX11_letterBy_32 : decode cX11_letterBy 32 = .ok (.if_icmp .ne 8, 3) := by decide +kernel
theorem dX11_letterBy_35 : decode cX11_letterBy 35 = .ok (.bipush 102, 2) := by decide +kernel
theorem dX11_letterBy_37 : decode cX11_letterBy 37 = .ok (.goto 15, 3) := by decide +kernel
theorem dX11_letterBy_40 : decode cX11_letterBy 40 = .ok (.iload_n 0, 1) := by decide +kernel
theorem dX11_letterBy_41 : decode cX11_letterBy 41 = .ok (.bipush 7, 2) := by decide +kernel
theorem dX11_letterBy_43 : decode cX11_letterBy 43 = .ok (.if_icmp .ne 8, 3) := by decide +kernel
theorem dX11_letterBy_46 : decode cX11_letterBy 46 = .ok (.bipush 122, 2) := by decide +kernel
theorem dX11_letterBy_48 : decode cX11_letterBy 48 = .ok (.goto 4, 3) := by decide +kernel
theorem dX11_letterBy_51 : decode cX11_letterBy 51 = .ok (.iconst (-1), 1) := by decide +kernel
theorem dX11_letterBy_52 : decode cX11_letterBy 52 = .ok (.ireturn, 1) := by decide +kernel
theorem dX11_gives_0 : decode cX11_gives 0 = .ok (.aload_n 0, 1) := by decide +kernel
theorem dX11_gives_1 : decode cX11_gives 1 = .ok (.iload_n 2, 1) := by decide +kernel
theorem dX11_gives_2 : decode cX11_gives 2 = .ok (.iload_n 3, 1) := by decide +kernel
theorem dX11_gives_3 : decode cX11_gives 3 = .ok (.iload 6, 2) := by decide +kernel
theorem dX11_gives_5 : decode cX11_gives 5 = .ok (.aload_n 0, 1) := by decide +kernel
theorem dX11_gives_6 : decode cX11_gives 6 = .ok (.getfield 104, 3) := by decide +kernel
theorem dX11_gives_9 : decode cX11_gives 9 = .ok (.iload_n 3, 1) := by decide +kernel
theorem dX11_gives_10 : decode cX11_gives 10 = .ok (.iaload, 1) := by decide +kernel
theorem dX11_gives_11 : decode cX11_gives 11 = .ok (.aload_n 0, 1) := by decide +kernel
theorem dX11_gives_12 : decode cX11_gives 12 = .ok (.getfield 107, 3) := by decide +kernel
theorem dX11_gives_15 : decode cX11_gives 15 = .ok (.iload_n 3, 1) := by decide +kernel
theorem dX11_gives_16 : decode cX11_gives 16 = .ok (.iaload, 1) := by decide +kernel
theorem dX11_gives_17 : decode cX11_gives 17 = .ok (.aload_n 0, 1) := by decide +kernel
theorem dX11_gives_18 : decode cX11_gives 18 = .ok (.getfield 110, 3) := by decide +kernel
theorem dX11_gives_21 : decode cX11_gives 21 = .ok (.iload_n 3, 1) := by decide +kernel
theorem dX11_gives_22 : decode cX11_gives 22 = .ok (.iaload, 1) := by decide +kernel
theorem dX11_gives_23 : decode cX11_gives 23 = .ok (.iconst 0, 1) := by decide +kernel
theorem dX11_gives_24 : decode cX11_gives 24 = .ok (.invokevirtual 314, 3) := by decide +kernel
theorem dX11_gives_27 : decode cX11_gives 27 = .ok (.aload_n 0, 1) := by decide +kernel
theorem dX11_gives_28 : decode cX11_gives 28 = .ok (.aload_n 0, 1) := by decide +kernel
theorem dX11_gives_29 : decode cX11_gives 29 = .ok (.iload_n 1, 1) := by decide +kernel
theorem dX11_gives_30 : decode cX11_gives 30 = .ok (.iload_n 2, 1) := by decide +kernel
theorem dX11_gives_31 : decode cX11_gives 31 = .ok (.iload_n 3, 1) := by decide +kernel
theorem dX11_gives_32 : decode cX11_gives 32 = .ok (.iload 4, 2) := by decide +kernel
theorem dX11_gives_34 : decode cX11_gives 34 = .ok (.iload 6, 2) := by decide +kernel
theorem dX11_gives_36 : decode cX11_gives 36 = .ok (.invokevirtual 318, 3) := by decide +kernel
theorem dX11_gives_39 : decode cX11_gives 39 = .ok (.iload 5, 2) := by decide +kernel
theorem dX11_gives_41 : decode cX11_gives 41 = .ok (.invokevirtual 321, 3) := by decide +kernel
theorem dX11_gives_44 : decode cX11_gives 44 = .ok (.ireturn, 1) := by decide +kernel
theorem dX11_works_0 : decode cX11_works 0 = .ok (.aload_n 0, 1) := by decide +kernel
theorem dX11_works_1 : decode cX11_works 1 = .ok (.getfield 19, 3) := by decide +kernel
theorem dX11_works_4 : decode cX11_works 4 = .ok (.iload_n 2, 1) := by decide +kernel
theorem dX11_works_5 : decode cX11_works 5 = .ok (.iaload, 1) := by decide +kernel
theorem dX11_works_6 : decode cX11_works 6 = .ok (.istore 4, 2) := by decide +kernel
theorem dX11_works_8 : decode cX11_works 8 = .ok (.iload 4, 2) := by decide +kernel
theorem dX11_works_10 : decode cX11_works 10 = .ok (.istore 5, 2) := by decide +kernel
theorem dX11_works_12 : decode cX11_works 12 = .ok (.iconst 0, 1) := by decide +kernel
theorem dX11_works_13 : decode cX11_works 13 = .ok (.istore 6, 2) := by decide +kernel
theorem dX11_works_15 : decode cX11_works 15 = .ok (.iconst 0, 1) := by decide +kernel
theorem dX11_works_16 : decode cX11_works 16 = .ok (.istore 7, 2) := by decide +kernel
theorem dX11_works_18 : decode cX11_works 18 = .ok (.iconst 0, 1) := by decide +kernel
theorem dX11_works_19 : decode cX11_works 19 = .ok (.istore 8, 2) := by decide +kernel
theorem dX11_works_21 : decode cX11_works 21 = .ok (.iconst 0, 1) := by decide +kernel
theorem dX11_works_22 : decode cX11_works 22 = .ok (.istore 9, 2) := by decide +kernel
theorem dX11_works_24 : decode cX11_works 24 = .ok (.iload 9, 2) := by decide +kernel
theorem dX11_works_26 : decode cX11_works 26 = .ok (.iload_n 3, 1) := by decide +kernel
theorem dX11_works_27 : decode cX11_works 27 = .ok (.if_icmp .ge 372, 3) := by decide +kernel
theorem dX11_works_30 : decode cX11_works 30 = .ok (.bipush 22, 2) := by decide +kernel
theorem dX11_works_32 : decode cX11_works 32 = .ok (.iload_n 2, 1) := by decide +kernel
theorem dX11_works_33 : decode cX11_works 33 = .ok (.imul, 1) := by decide +kernel
theorem dX11_works_34 : decode cX11_works 34 = .ok (.iload 9, 2) := by decide +kernel
theorem dX11_works_36 : decode cX11_works 36 = .ok (.iadd, 1) := by decide +kernel
theorem dX11_works_37 : decode cX11_works 37 = .ok (.istore 10, 2) := by decide +kernel
theorem dX11_works_39 : decode cX11_works 39 = .ok (.aload_n 0, 1) := by decide +kernel
theorem dX11_works_40 : decode cX11_works 40 = .ok (.getfield 28, 3) := by decide +kernel
theorem dX11_works_43 : decode cX11_works 43 = .ok (.iload 10, 2) := by decide +kernel
theorem dX11_works_45 : decode cX11_works 45 = .ok (.iaload, 1) := by decide +kernel
theorem dX11_works_46 : decode cX11_works 46 = .ok (.istore 11, 2) := by decide +kernel
theorem dX11_works_48 : decode cX11_works 48 = .ok (.aload_n 0, 1) := by decide +kernel
theorem dX11_works_49 : decode cX11_works 49 = .ok (.getfield 31, 3) := by decide +kernel
theorem dX11_works_52 : decode cX11_works 52 = .ok (.iload 10, 2) := by decide +kernel
theorem dX11_works_54 : decode cX11_works 54 = .ok (.iaload, 1) := by decide +kernel
theorem dX11_works_55 : decode cX11_works 55 = .ok (.istore 12, 2) := by decide +kernel
theorem dX11_works_57 : decode cX11_works 57 = .ok (.iload 5, 2) := by decide +kernel
theorem dX11_works_59 : decode cX11_works 59 = .ok (.iload 4, 2) := by decide +kernel
theorem dX11_works_61 : decode cX11_works 61 = .ok (.if_icmp .ne 7, 3) := by decide +kernel
theorem dX11_works_64 : decode cX11_works 64 = .ok (.iconst 1, 1) := by decide +kernel
theorem dX11_works_65 : decode cX11_works 65 = .ok (.goto 4, 3) := by decide +kernel
theorem dX11_works_68 : decode cX11_works 68 = .ok (.iconst 0, 1) := by decide +kernel
theorem dX11_works_69 : decode cX11_works 69 = .ok (.istore 13, 2) := by decide +kernel
theorem dX11_works_71 : decode cX11_works 71 = .ok (.aload_n 0, 1) := by decide +kernel
theorem dX11_works_72 : decode cX11_works 72 = .ok (.getfield 101, 3) := by decide +kernel
theorem dX11_works_75 : decode cX11_works 75 = .ok (.iload 9, 2) := by decide +kernel
theorem dX11_works_77 : decode cX11_works 77 = .ok (.iload 4, 2) := by decide +kernel
theorem dX11_works_79 : decode cX11_works 79 = .ok (.iastore, 1) := by decide +kernel
theorem dX11_works_80 : decode cX11_works 80 = .ok (.iload 13, 2) := by decide +kernel
theorem dX11_works_82 : decode cX11_works 82 = .ok (.ifCond .eq 40, 3) := by decide +kernel
theorem dX11_works_85 : decode cX11_works 85 = .ok (.iload 11, 2) := by decide +kernel
theorem dX11_works_87 : decode cX11_works 87 = .ok (.iconst 2, 1) := by decide +kernel
theorem dX11_works_88 : decode cX11_works 88 = .ok (.if_icmp .le 34, 3) := by decide +kernel
theorem dX11_works_91 : decode cX11_works 91 = .ok (.iload 11, 2) := by decide +kernel
theorem dX11_works_93 : decode cX11_works 93 = .ok (.iconst 3, 1) := by decide +kernel
theorem dX11_works_94 : decode cX11_works 94 = .ok (.if_icmp .eq 9, 3) := by decide +kernel
theorem dX11_works_97 : decode cX11_works 97 = .ok (.iload 11, 2) := by decide +kernel
theorem dX11_works_99 : decode cX11_works 99 = .ok (.iconst 4, 1) := by decide +kernel
theorem dX11_works_100 : decode cX11_works 100 = .ok (.if_icmp .ne 7, 3) := by decide +kernel
theorem dX11_works_103 : decode cX11_works 103 = .ok (.iconst 1, 1) := by decide +kernel
theorem dX11_works_104 : decode cX11_works 104 = .ok (.goto 4, 3) := by decide +kernel
theorem dX11_works_107 : decode cX11_works 107 = .ok (.iconst 0, 1) := by decide +kernel
theorem dX11_works_108 : decode cX11_works 108 = .ok (.istore 6, 2) := by decide +kernel
theorem dX11_works_110 : decode cX11_works 110 = .ok (.aload_n 0, 1) := by decide +kernel
theorem dX11_works_111 : decode cX11_works 111 = .ok (.getfield 37, 3) := by decide +kernel
theorem dX11_works_114 : decode cX11_works 114 = .ok (.iload 10, 2) := by decide +kernel
theorem dX11_works_116 : decode cX11_works 116 = .ok (.iaload, 1) := by decide +kernel
theorem dX11_works_117 : decode cX11_works 117 = .ok (.istore 7, 2) := by decide +kernel
theorem dX11_works_119 : decode cX11_works 119 = .ok (.iconst 1, 1) := by decide +kernel
theorem dX11_works_120 : decode cX11_works 120 = .ok (.istore 8, 2) := by decide +kernel
theorem dX11_works_122 : decode cX11_works 122 = .ok (.iload 13, 2) := by decide +kernel
theorem dX11_works_124 : decode cX11_works 124 = .ok (.ifCond .ne 9, 3) := by decide +kernel
theorem dX11_works_127 : decode cX11_works 127 = .ok (.iload 8, 2) := by decide +kernel
theorem dX11_works_129 : decode cX11_works 129 = .ok (.iconst 1, 1) := by decide +kernel
theorem dX11_works_130 : decode cX11_works 130 = .ok (.iadd, 1) := by decide +kernel
theorem dX11_works_131 : decode cX11_works 131 = .ok (.istore 8, 2) := by decide +kernel
theorem dX11_works_133 : decode cX11_works 133 = .ok (.aload_n 0, 1) := by decide +kernel
theorem dX11_works_134 : decode cX11_works 134 = .ok (.getfield 104, 3) := by decide +kernel
theorem dX11_works_137 : decode cX11_works 137 = .ok (.iload 9, 2) := by decide +kernel
theorem dX11_works_139 : decode cX11_works 139 = .ok (.iload 6, 2) := by decide +kernel
theorem dX11_works_141 : decode cX11_works 141 = .ok (.iastore, 1) := by decide +kernel
theorem dX11_works_142 : decode cX11_works 142 = .ok (.aload_n 0, 1) := by decide +kernel
theorem dX11_works_143 : decode cX11_works 143 = .ok (.getfield 107, 3) := by decide +kernel
theorem dX11_works_146 : decode cX11_works 146 = .ok (.iload 9, 2) := by decide +kernel
theorem dX11_works_148 : decode cX11_works 148 = .ok (.aload_n 0, 1) := by decide +kernel
theorem dX11_works_149 : decode cX11_works 149 = .ok (.getfield 37, 3) := by decide +kernel
theorem dX11_works_152 : decode cX11_works 152 = .ok (.iload 10, 2) := by decide +kernel
theorem dX11_works_154 : decode cX11_works 154 = .ok (.iaload, 1) := by decide +kernel
theorem dX11_works_155 : decode cX11_works 155 = .ok (.iload 7, 2) := by decide +kernel
theorem dX11_works_157 : decode cX11_works 157 = .ok (.isub, 1) := by decide +kernel
theorem dX11_works_158 : decode cX11_works 158 = .ok (.iastore, 1) := by decide +kernel
theorem dX11_works_159 : decode cX11_works 159 = .ok (.aload_n 0, 1) := by decide +kernel
theorem dX11_works_160 : decode cX11_works 160 = .ok (.getfield 110, 3) := by decide +kernel
theorem dX11_works_163 : decode cX11_works 163 = .ok (.iload 9, 2) := by decide +kernel
theorem dX11_works_165 : decode cX11_works 165 = .ok (.iload 8, 2) := by decide +kernel
theorem dX11_works_167 : decode cX11_works 167 = .ok (.iastore, 1) := by decide +kernel
theorem dX11_works_168 : decode cX11_works 168 = .ok (.iload 13, 2) := by decide +kernel
theorem dX11_works_170 : decode cX11_works 170 = .ok (.ifCond .eq 16, 3) := by decide +kernel
theorem dX11_works_173 : decode cX11_works 173 = .ok (.iload 11, 2) := by decide +kernel
theorem dX11_works_175 : decode cX11_works 175 = .ok (.iconst 2, 1) := by decide +kernel
theorem dX11_works_176 : decode cX11_works 176 = .ok (.if_icmp .gt 10, 3) := by decide +kernel
theorem dX11_works_179 : decode cX11_works 179 = .ok (.iload 12, 2) := by decide +kernel
theorem dX11_works_181 : decode cX11_works 181 = .ok (.istore 4, 2) := by decide +kernel
theorem dX11_works_183 : decode cX11_works 183 = .ok (.goto 36, 3) := by decide +kernel
theorem dX11_works_186 : decode cX11_works 186 = .ok (.iload 11, 2) := by decide +kernel
theorem dX11_works_188 : decode cX11_works 188 = .ok (.invokestatic 324, 3) := by decide +kernel
theorem dX11_works_191 : decode cX11_works 191 = .ok (.iconst (-1), 1) := by decide +kernel
theorem dX11_works_192 : decode cX11_works 192 = .ok (.if_icmp .eq 27, 3) := by decide +kernel
theorem dX11_works_195 : decode cX11_works 195 = .ok (.aload_n 0, 1) := by decide +kernel
theorem dX11_works_196 : decode cX11_works 196 = .ok (.iload_n 1, 1) := by decide +kernel
theorem dX11_works_197 : decode cX11_works 197 = .ok (.iload_n 2, 1) := by decide +kernel
theorem dX11_works_198 : decode cX11_works 198 = .ok (.iload 9, 2) := by decide +kernel
theorem dX11_works_200 : decode cX11_works 200 = .ok (.iload 11, 2) := by decide +kernel
theorem dX11_works_202 : decode cX11_works 202 = .ok (.iload 11, 2) := by decide +kernel
theorem dX11_works_204 : decode cX11_works 204 = .ok (.invokestatic 324, 3) := by decide +kernel
theorem dX11_works_207 : decode cX11_works 207 = .ok (.iload 4, 2) := by decide +kernel
theorem dX11_works_209 : decode cX11_works 209 = .ok (.invokevirtual 327, 3) := by decide +kernel
theorem dX11_works_212 : decode cX11_works 212 = .ok (.ifCond .eq 7, 3) := by decide +kernel
theorem dX11_works_215 : decode cX11_works 215 = .ok (.iload 12, 2) := by decide +kernel
theorem dX11_works_217 : decode cX11_works 217 = .ok (.istore 4, 2) := by decide +kernel
theorem dX11_works_219 : decode cX11_works 219 = .ok (.iload 12, 2) := by decide +kernel
theorem dX11_works_221 : decode cX11_works 221 = .ok (.istore 5, 2) := by decide +kernel
theorem dX11_works_223 : decode cX11_works 223 = .ok (.aload_n 0, 1) := by decide +kernel
theorem dX11_works_224 : decode cX11_works 224 = .ok (.getfield 113, 3) := by decide +kernel
theorem dX11_works_227 : decode cX11_works 227 = .ok (.iload 9, 2) := by decide +kernel
theorem dX11_works_229 : decode cX11_works 229 = .ok (.iload 4, 2) := by decide +kernel
theorem dX11_works_231 : decode cX11_works 231 = .ok (.iastore, 1) := by decide +kernel
theorem dX11_works_232 : decode cX11_works 232 = .ok (.aload_n 0, 1) := by decide +kernel
theorem dX11_works_233 : decode cX11_works 233 = .ok (.getfield 119, 3) := by decide +kernel
theorem dX11_works_236 : decode cX11_works 236 = .ok (.iload 9, 2) := by decide +kernel
theorem dX11_works_238 : decode cX11_works 238 = .ok (.aload_n 0, 1) := by decide +kernel
theorem dX11_works_239 : decode cX11_works 239 = .ok (.getfield 101, 3) := by decide +kernel
theorem dX11_works_242 : decode cX11_works 242 = .ok (.iload 9, 2) := by decide +kernel
theorem dX11_works_244 : decode cX11_works 244 = .ok (.iaload, 1) := by decide +kernel
theorem dX11_works_245 : decode cX11_works 245 = .ok (.iload 12, 2) := by decide +kernel
theorem dX11_works_247 : decode cX11_works 247 = .ok (.if_icmp .eq 14, 3) := by decide +kernel
theorem dX11_works_250 : decode cX11_works 250 = .ok (.iload 4, 2) := by decide +kernel
theorem dX11_works_252 : decode cX11_works 252 = .ok (.iload 12, 2) := by decide +kernel
theorem dX11_works_254 : decode cX11_works 254 = .ok (.if_icmp .ne 7, 3) := by decide +kernel
theorem dX11_works_257 : decode cX11_works 257 = .ok (.iconst 1, 1) := by decide +kernel
theorem dX11_works_258 : decode cX11_works 258 = .ok (.goto 4, 3) := by decide +kernel
theorem dX11_works_261 : decode cX11_works 261 = .ok (.iconst 0, 1) := by decide +kernel
theorem dX11_works_262 : decode cX11_works 262 = .ok (.bastore, 1) := by decide +kernel
theorem dX11_works_263 : decode cX11_works 263 = .ok (.aload_n 0, 1) := by decide +kernel
theorem dX11_works_264 : decode cX11_works 264 = .ok (.getfield 116, 3) := by decide +kernel
theorem dX11_works_267 : decode cX11_works 267 = .ok (.iload 9, 2) := by decide +kernel
theorem dX11_works_269 : decode cX11_works 269 = .ok (.iconst (-1), 1) := by decide +kernel
theorem dX11_works_270 : decode cX11_works 270 = .ok (.iastore, 1) := by decide +kernel
theorem dX11_works_271 : decode cX11_works 271 = .ok (.iload 9, 2) := by decide +kernel
theorem dX11_works_273 : decode cX11_works 273 = .ok (.iconst 1, 1) := by decide +kernel
theorem dX11_works_274 : decode cX11_works 274 = .ok (.iadd, 1) := by decide +kernel
theorem dX11_works_275 : decode cX11_works 275 = .ok (.iload_n 3, 1) := by decide +kernel
theorem dX11_works_276 : decode cX11_works 276 = .ok (.if_icmp .ge 15, 3) := by decide +kernel
theorem dX11_works_279 : decode cX11_works 279 = .ok (.aload_n 0, 1) := by decide +kernel
theorem dX11_works_280 : decode cX11_works 280 = .ok (.getfield 37, 3) := by decide +kernel
theorem dX11_works_283 : decode cX11_works 283 = .ok (.iload 10, 2) := by decide +kernel
theorem dX11_works_285 : decode cX11_works 285 = .ok (.iconst 1, 1) := by decide +kernel
theorem dX11_works_286 : decode cX11_works 286 = .ok (.iadd, 1) := by decide +kernel
theorem dX11_works_287 : decode cX11_works 287 = .ok (.iaload, 1) := by decide +kernel
theorem dX11_works_288 : decode cX11_works 288 = .ok (.goto 7, 3) := by decide +kernel
theorem dX11_works_291 : decode cX11_works 291 = .ok (.aload_n 0, 1) := by decide +kernel
theorem dX11_works_292 : decode cX11_works 292 = .ok (.getfield 158, 3) := by decide +kernel
theorem dX11_works_295 : decode cX11_works 295 = .ok (.istore 14, 2) := by decide +kernel
theorem dX11_works_297 : decode cX11_works 297 = .ok (.aload_n 0, 1) := by decide +kernel
theorem dX11_works_298 : decode cX11_works 298 = .ok (.getfield 37, 3) := by decide +kernel
theorem dX11_works_301 : decode cX11_works 301 = .ok (.iload 10, 2) := by decide +kernel
theorem dX11_works_303 : decode cX11_works 303 = .ok (.iaload, 1) := by decide +kernel
theorem dX11_works_304 : decode cX11_works 304 = .ok (.iconst 1, 1) := by decide +kernel
theorem dX11_works_305 : decode cX11_works 305 = .ok (.iadd, 1) := by decide +kernel
theorem dX11_works_306 : decode cX11_works 306 = .ok (.istore 15, 2) := by decide +kernel
theorem dX11_works_308 : decode cX11_works 308 = .ok (.iload 15, 2) := by decide +kernel
theorem dX11_works_310 : decode cX11_works 310 = .ok (.iload 14, 2) := by decide +kernel
theorem dX11_works_312 : decode cX11_works 312 = .ok (.if_icmp .gt 81, 3) := by decide +kernel
theorem dX11_works_315 : decode cX11_works 315 = .ok (.iload 4, 2) := by decide +kernel
theorem dX11_works_317 : decode cX11_works 317 = .ok (.iload 5, 2) := by decide +kernel
theorem dX11_works_319 : decode cX11_works 319 = .ok (.if_icmp .eq 74, 3) := by decide +kernel
theorem dX11_works_322 : decode cX11_works 322 = .ok (.aload_n 0, 1) := by decide +kernel
theorem dX11_works_323 : decode cX11_works 323 = .ok (.iload_n 2, 1) := by decide +kernel
theorem dX11_works_324 : decode cX11_works 324 = .ok (.iload 9, 2) := by decide +kernel
theorem dX11_works_326 : decode cX11_works 326 = .ok (.iload 4, 2) := by decide +kernel
theorem dX11_works_328 : decode cX11_works 328 = .ok (.iload 6, 2) := by decide +kernel
theorem dX11_works_330 : decode cX11_works 330 = .ok (.iload 15, 2) := by decide +kernel
theorem dX11_works_332 : decode cX11_works 332 = .ok (.iload 7, 2) := by decide +kernel
theorem dX11_works_334 : decode cX11_works 334 = .ok (.isub, 1) := by decide +kernel
theorem dX11_works_335 : decode cX11_works 335 = .ok (.iload 8, 2) := by decide +kernel
theorem dX11_works_337 : decode cX11_works 337 = .ok (.iload 15, 2) := by decide +kernel
theorem dX11_works_339 : decode cX11_works 339 = .ok (.aload_n 0, 1) := by decide +kernel
theorem dX11_works_340 : decode cX11_works 340 = .ok (.getfield 37, 3) := by decide +kernel
theorem dX11_works_343 : decode cX11_works 343 = .ok (.iload 10, 2) := by decide +kernel
theorem dX11_works_345 : decode cX11_works 345 = .ok (.iaload, 1) := by decide +kernel
theorem dX11_works_346 : decode cX11_works 346 = .ok (.isub, 1) := by decide +kernel
theorem dX11_works_347 : decode cX11_works 347 = .ok (.invokevirtual 314, 3) := by decide +kernel
theorem dX11_works_350 : decode cX11_works 350 = .ok (.aload_n 0, 1) := by decide +kernel
theorem dX11_works_351 : decode cX11_works 351 = .ok (.aload_n 0, 1) := by decide +kernel
theorem dX11_works_352 : decode cX11_works 352 = .ok (.iload_n 1, 1) := by decide +kernel
theorem dX11_works_353 : decode cX11_works 353 = .ok (.iload_n 2, 1) := by decide +kernel
theorem dX11_works_354 : decode cX11_works 354 = .ok (.iload 9, 2) := by decide +kernel
theorem dX11_works_356 : decode cX11_works 356 = .ok (.bipush 8, 2) := by decide +kernel
theorem dX11_works_358 : decode cX11_works 358 = .ok (.iload 4, 2) := by decide +kernel
theorem dX11_works_360 : decode cX11_works 360 = .ok (.invokevirtual 318, 3) := by decide +kernel
theorem dX11_works_363 : decode cX11_works 363 = .ok (.bipush 121, 2) := by decide +kernel
theorem dX11_works_365 : decode cX11_works 365 = .ok (.invokevirtual 321, 3) := by decide +kernel
theorem dX11_works_368 : decode cX11_works 368 = .ok (.ifCond .ne 6, 3) := by decide +kernel
theorem dX11_works_371 : decode cX11_works 371 = .ok (.goto 16, 3) := by decide +kernel
theorem dX11_works_374 : decode cX11_works 374 = .ok (.iload 5, 2) := by decide +kernel
theorem dX11_works_376 : decode cX11_works 376 = .ok (.istore 4, 2) := by decide +kernel
theorem dX11_works_378 : decode cX11_works 378 = .ok (.aload_n 0, 1) := by decide +kernel
theorem dX11_works_379 : decode cX11_works 379 = .ok (.getfield 116, 3) := by decide +kernel
theorem dX11_works_382 : decode cX11_works 382 = .ok (.iload 9, 2) := by decide +kernel
theorem dX11_works_384 : decode cX11_works 384 = .ok (.iload 15, 2) := by decide +kernel
theorem dX11_works_386 : decode cX11_works 386 = .ok (.iastore, 1) := by decide +kernel
theorem dX11_works_387 : decode cX11_works 387 = .ok (.iinc 15 1, 3) := by decide +kernel
theorem dX11_works_390 : decode cX11_works 390 = .ok (.goto (-82), 3) := by decide +kernel
theorem dX11_works_393 : decode cX11_works 393 = .ok (.iinc 9 1, 3) := by decide +kernel
theorem dX11_works_396 : decode cX11_works 396 = .ok (.goto (-372), 3) := by decide +kernel
theorem dX11_works_399 : decode cX11_works 399 = .ok (.aload_n 0, 1) := by decide +kernel
theorem dX11_works_400 : decode cX11_works 400 = .ok (.iload 4, 2) := by decide +kernel
theorem dX11_works_402 : decode cX11_works 402 = .ok (.putfield 331, 3) := by decide +kernel
theorem dX11_works_405 : decode cX11_works 405 = .ok (.return_, 1) := by decide +kernel
theorem dX11_leastMinds_0 : decode cX11_leastMinds 0 = .ok (.iconst 0, 1) := by decide +kernel
theorem dX11_leastMinds_1 : decode cX11_leastMinds 1 = .ok (.istore_n 2, 1) := by decide +kernel
theorem dX11_leastMinds_2 : decode cX11_leastMinds 2 = .ok (.iload_n 2, 1) := by decide +kernel
theorem dX11_leastMinds_3 : decode cX11_leastMinds 3 = .ok (.aload_n 0, 1) := by decide +kernel
theorem dX11_leastMinds_4 : decode cX11_leastMinds 4 = .ok (.getfield 25, 3) := by decide +kernel
theorem dX11_leastMinds_7 : decode cX11_leastMinds 7 = .ok (.iload_n 1, 1) := by decide +kernel
theorem dX11_leastMinds_8 : decode cX11_leastMinds 8 = .ok (.iaload, 1) := by decide +kernel
theorem dX11_leastMinds_9 : decode cX11_leastMinds 9 = .ok (.if_icmp .ge 26, 3) := by decide +kernel
theorem dX11_leastMinds_12 : decode cX11_leastMinds 12 = .ok (.aload_n 0, 1) := by decide +kernel
theorem dX11_leastMinds_13 : decode cX11_leastMinds 13 = .ok (.getfield 98, 3) := by decide +kernel
theorem dX11_leastMinds_16 : decode cX11_leastMinds 16 = .ok (.iload_n 2, 1) := by decide +kernel
theorem dX11_leastMinds_17 : decode cX11_leastMinds 17 = .ok (.aload_n 0, 1) := by decide +kernel
theorem dX11_leastMinds_18 : decode cX11_leastMinds 18 = .ok (.getfield 46, 3) := by decide +kernel
theorem dX11_leastMinds_21 : decode cX11_leastMinds 21 = .ok (.bipush 22, 2) := by decide +kernel
theorem dX11_leastMinds_23 : decode cX11_leastMinds 23 = .ok (.iload_n 1, 1) := by decide +kernel
theorem dX11_leastMinds_24 : decode cX11_leastMinds 24 = .ok (.imul, 1) := by decide +kernel
theorem dX11_leastMinds_25 : decode cX11_leastMinds 25 = .ok (.iload_n 2, 1) := by decide +kernel
theorem dX11_leastMinds_26 : decode cX11_leastMinds 26 = .ok (.iadd, 1) := by decide +kernel
theorem dX11_leastMinds_27 : decode cX11_leastMinds 27 = .ok (.iaload, 1) := by decide +kernel
theorem dX11_leastMinds_28 : decode cX11_leastMinds 28 = .ok (.iastore, 1) := by decide +kernel
theorem dX11_leastMinds_29 : decode cX11_leastMinds 29 = .ok (.iinc 2 1, 3) := by decide +kernel
theorem dX11_leastMinds_32 : decode cX11_leastMinds 32 = .ok (.goto (-30), 3) := by decide +kernel
theorem dX11_leastMinds_35 : decode cX11_leastMinds 35 = .ok (.return_, 1) := by decide +kernel
theorem dX11_judges_0 : decode cX11_judges 0 = .ok (.aload_n 0, 1) := by decide +kernel
theorem dX11_judges_1 : decode cX11_judges 1 = .ok (.iconst 0, 1) := by decide +kernel
theorem dX11_judges_2 : decode cX11_judges 2 = .ok (.putfield 308, 3) := by decide +kernel
theorem dX11_judges_5 : decode cX11_judges 5 = .ok (.aload_n 0, 1) := by decide +kernel
theorem dX11_judges_6 : decode cX11_judges 6 = .ok (.iload_n 2, 1) := by decide +kernel
theorem dX11_judges_7 : decode cX11_judges 7 = .ok (.invokevirtual 334, 3) := by decide +kernel
theorem dX11_judges_10 : decode cX11_judges 10 = .ok (.aload_n 0, 1) := by decide +kernel
theorem dX11_judges_11 : decode cX11_judges 11 = .ok (.iload_n 1, 1) := by decide +kernel
theorem dX11_judges_12 : decode cX11_judges 12 = .ok (.iload_n 2, 1) := by decide +kernel
theorem dX11_judges_13 : decode cX11_judges 13 = .ok (.aload_n 0, 1) := by decide +kernel
theorem dX11_judges_14 : decode cX11_judges 14 = .ok (.getfield 25, 3) := by decide +kernel
theorem dX11_judges_17 : decode cX11_judges 17 = .ok (.iload_n 2, 1) := by decide +kernel
theorem dX11_judges_18 : decode cX11_judges 18 = .ok (.iaload, 1) := by decide +kernel
theorem dX11_judges_19 : decode cX11_judges 19 = .ok (.invokevirtual 337, 3) := by decide +kernel
theorem dX11_judges_22 : decode cX11_judges 22 = .ok (.return_, 1) := by decide +kernel
theorem dX11_canJudge_0 : decode cX11_canJudge 0 = .ok (.iload_n 1, 1) := by decide +kernel
theorem dX11_canJudge_1 : decode cX11_canJudge 1 = .ok (.invokestatic 165, 3) := by decide +kernel
theorem dX11_canJudge_4 : decode cX11_canJudge 4 = .ok (.ifCond .eq 15, 3) := by decide +kernel
theorem dX11_canJudge_7 : decode cX11_canJudge 7 = .ok (.aload_n 0, 1) := by decide +kernel
theorem dX11_canJudge_8 : decode cX11_canJudge 8 = .ok (.iload_n 2, 1) := by decide +kernel
theorem dX11_canJudge_9 : decode cX11_canJudge 9 = .ok (.invokevirtual 154, 3) := by decide +kernel
theorem dX11_canJudge_12 : decode cX11_canJudge 12 = .ok (.ifCond .eq 7, 3) := by decide +kernel
theorem dX11_canJudge_15 : decode cX11_canJudge 15 = .ok (.iconst 1, 1) := by decide +kernel
theorem dX11_canJudge_16 : decode cX11_canJudge 16 = .ok (.goto 4, 3) := by decide +kernel
theorem dX11_canJudge_19 : decode cX11_canJudge 19 = .ok (.iconst 0, 1) := by decide +kernel
theorem dX11_canJudge_20 : decode cX11_canJudge 20 = .ok (.ireturn, 1) := by decide +kernel
theorem dX11_rules_0 : decode cX11_rules 0 = .ok (.iload_n 1, 1) := by decide +kernel
theorem dX11_rules_1 : decode cX11_rules 1 = .ok (.invokestatic 165, 3) := by decide +kernel
theorem dX11_rules_4 : decode cX11_rules 4 = .ok (.ifCond .eq 22, 3) := by decide +kernel
theorem dX11_rules_7 : decode cX11_rules 7 = .ok (.aload_n 0, 1) := by decide +kernel
theorem dX11_rules_8 : decode cX11_rules 8 = .ok (.iload_n 2, 1) := by decide +kernel
theorem dX11_rules_9 : decode cX11_rules 9 = .ok (.iload_n 3, 1) := by decide +kernel
theorem dX11_rules_10 : decode cX11_rules 10 = .ok (.invokevirtual 188, 3) := by decide +kernel
theorem dX11_rules_13 : decode cX11_rules 13 = .ok (.ifCond .eq 13, 3) := by decide +kernel
theorem dX11_rules_16 : decode cX11_rules 16 = .ok (.iload 4, 2) := by decide +kernel
theorem dX11_rules_18 : decode cX11_rules 18 = .ok (.iconst 0, 1) := by decide +kernel
theorem dX11_rules_19 : decode cX11_rules 19 = .ok (.iconst 1, 1) := by decide +kernel
theorem dX11_rules_20 : decode cX11_rules 20 = .ok (.invokestatic 161, 3) := by decide +kernel
theorem dX11_rules_23 : decode cX11_rules 23 = .ok (.ifCond .ne 5, 3) := by decide +kernel
theorem dX11_rules_26 : decode cX11_rules 26 = .ok (.iconst (-1), 1) := by decide +kernel
theorem dX11_rules_27 : decode cX11_rules 27 = .ok (.ireturn, 1) := by decide +kernel
theorem dX11_rules_28 : decode cX11_rules 28 = .ok (.aload_n 0, 1) := by decide +kernel
theorem dX11_rules_29 : decode cX11_rules 29 = .ok (.iload_n 1, 1) := by decide +kernel
theorem dX11_rules_30 : decode cX11_rules 30 = .ok (.iload_n 2, 1) := by decide +kernel
theorem dX11_rules_31 : decode cX11_rules 31 = .ok (.invokevirtual 341, 3) := by decide +kernel
theorem dX11_rules_34 : decode cX11_rules 34 = .ok (.iload 4, 2) := by decide +kernel
theorem dX11_rules_36 : decode cX11_rules 36 = .ok (.iconst 1, 1) := by decide +kernel
theorem dX11_rules_37 : decode cX11_rules 37 = .ok (.if_icmp .ne 21, 3) := by decide +kernel
theorem dX11_rules_40 : decode cX11_rules 40 = .ok (.aload_n 0, 1) := by decide +kernel
theorem dX11_rules_41 : decode cX11_rules 41 = .ok (.iload_n 1, 1) := by decide +kernel
theorem dX11_rules_42 : decode cX11_rules 42 = .ok (.iload_n 2, 1) := by decide +kernel
theorem dX11_rules_43 : decode cX11_rules 43 = .ok (.iload_n 3, 1) := by decide +kernel
theorem dX11_rules_44 : decode cX11_rules 44 = .ok (.bipush 8, 2) := by decide +kernel
theorem dX11_rules_46 : decode cX11_rules 46 = .ok (.aload_n 0, 1) := by decide +kernel
theorem dX11_rules_47 : decode cX11_rules 47 = .ok (.getfield 113, 3) := by decide +kernel
theorem dX11_rules_50 : decode cX11_rules 50 = .ok (.iload_n 3, 1) := by decide +kernel
theorem dX11_rules_51 : decode cX11_rules 51 = .ok (.iaload, 1) := by decide +kernel
theorem dX11_rules_52 : decode cX11_rules 52 = .ok (.invokevirtual 318, 3) := by decide +kernel
theorem dX11_rules_55 : decode cX11_rules 55 = .ok (.goto 27, 3) := by decide +kernel
theorem dX11_rules_58 : decode cX11_rules 58 = .ok (.aload_n 0, 1) := by decide +kernel
theorem dX11_rules_59 : decode cX11_rules 59 = .ok (.iload_n 1, 1) := by decide +kernel
theorem dX11_rules_60 : decode cX11_rules 60 = .ok (.iload_n 2, 1) := by decide +kernel
theorem dX11_rules_61 : decode cX11_rules 61 = .ok (.iload_n 3, 1) := by decide +kernel
theorem dX11_rules_62 : decode cX11_rules 62 = .ok (.aload_n 0, 1) := by decide +kernel
theorem dX11_rules_63 : decode cX11_rules 63 = .ok (.getfield 28, 3) := by decide +kernel
theorem dX11_rules_66 : decode cX11_rules 66 = .ok (.bipush 22, 2) := by decide +kernel
theorem dX11_rules_68 : decode cX11_rules 68 = .ok (.iload_n 2, 1) := by decide +kernel
theorem dX11_rules_69 : decode cX11_rules 69 = .ok (.imul, 1) := by decide +kernel
theorem dX11_rules_70 : decode cX11_rules 70 = .ok (.iload_n 3, 1) := by decide +kernel
theorem dX11_rules_71 : decode cX11_rules 71 = .ok (.iadd, 1) := by decide +kernel
theorem dX11_rules_72 : decode cX11_rules 72 = .ok (.iaload, 1) := by decide +kernel
theorem dX11_rules_73 : decode cX11_rules 73 = .ok (.aload_n 0, 1) := by decide +kernel
theorem dX11_rules_74 : decode cX11_rules 74 = .ok (.getfield 101, 3) := by decide +kernel
theorem dX11_rules_77 : decode cX11_rules 77 = .ok (.iload_n 3, 1) := by decide +kernel
theorem dX11_rules_78 : decode cX11_rules 78 = .ok (.iaload, 1) := by decide +kernel
theorem dX11_rules_79 : decode cX11_rules 79 = .ok (.invokevirtual 318, 3) := by decide +kernel
theorem dX11_rules_82 : decode cX11_rules 82 = .ok (.istore 5, 2) := by decide +kernel
theorem dX11_rules_84 : decode cX11_rules 84 = .ok (.aload_n 0, 1) := by decide +kernel
theorem dX11_rules_85 : decode cX11_rules 85 = .ok (.getfield 300, 3) := by decide +kernel
theorem dX11_rules_88 : decode cX11_rules 88 = .ok (.ifCond .eq 8, 3) := by decide +kernel
theorem dX11_rules_91 : decode cX11_rules 91 = .ok (.bipush (-2), 2) := by decide +kernel
theorem dX11_rules_93 : decode cX11_rules 93 = .ok (.goto 5, 3) := by decide +kernel
theorem dX11_rules_96 : decode cX11_rules 96 = .ok (.iload 5, 2) := by decide +kernel
theorem dX11_rules_98 : decode cX11_rules 98 = .ok (.ireturn, 1) := by decide +kernel
theorem dX11_whose_0 : decode cX11_whose 0 = .ok (.aload_n 0, 1) := by decide +kernel
theorem dX11_whose_1 : decode cX11_whose 1 = .ok (.iload_n 1, 1) := by decide +kernel
theorem dX11_whose_2 : decode cX11_whose 2 = .ok (.iload_n 2, 1) := by decide +kernel
theorem dX11_whose_3 : decode cX11_whose 3 = .ok (.invokevirtual 344, 3) := by decide +kernel
theorem dX11_whose_6 : decode cX11_whose 6 = .ok (.ifCond .ne 5, 3) := by decide +kernel
theorem dX11_whose_9 : decode cX11_whose 9 = .ok (.iconst (-1), 1) := by decide +kernel
theorem dX11_whose_10 : decode cX11_whose 10 = .ok (.ireturn, 1) := by decide +kernel
theorem dX11_whose_11 : decode cX11_whose 11 = .ok (.aload_n 0, 1) := by decide +kernel
theorem dX11_whose_12 : decode cX11_whose 12 = .ok (.iload_n 1, 1) := by decide +kernel
theorem dX11_whose_13 : decode cX11_whose 13 = .ok (.iload_n 2, 1) := by decide +kernel
theorem dX11_whose_14 : decode cX11_whose 14 = .ok (.invokevirtual 341, 3) := by decide +kernel
theorem dX11_whose_17 : decode cX11_whose 17 = .ok (.aload_n 0, 1) := by decide +kernel
theorem dX11_whose_18 : decode cX11_whose 18 = .ok (.getfield 331, 3) := by decide +kernel
theorem dX11_whose_21 : decode cX11_whose 21 = .ok (.ireturn, 1) := by decide +kernel
theorem dX11_title_0 : decode cX11_title 0 = .ok (.iload_n 1, 1) := by decide +kernel
theorem dX11_title_1 : decode cX11_title 1 = .ok (.invokestatic 165, 3) := by decide +kernel
theorem dX11_title_4 : decode cX11_title 4 = .ok (.ifCond .eq 12, 3) := by decide +kernel
theorem dX11_title_7 : decode cX11_title 7 = .ok (.aload_n 0, 1) := by decide +kernel
theorem dX11_title_8 : decode cX11_title 8 = .ok (.iload_n 2, 1) := by decide +kernel
theorem dX11_title_9 : decode cX11_title 9 = .ok (.iload_n 3, 1) := by decide +kernel
theorem dX11_title_10 : decode cX11_title 10 = .ok (.invokevirtual 188, 3) := by decide +kernel
theorem dX11_title_13 : decode cX11_title 13 = .ok (.ifCond .ne 5, 3) := by decide +kernel
theorem dX11_title_16 : decode cX11_title 16 = .ok (.iconst (-1), 1) := by decide +kernel
theorem dX11_title_17 : decode cX11_title 17 = .ok (.ireturn, 1) := by decide +kernel
theorem dX11_title_18 : decode cX11_title 18 = .ok (.aload_n 0, 1) := by decide +kernel
theorem dX11_title_19 : decode cX11_title 19 = .ok (.iload_n 1, 1) := by decide +kernel
theorem dX11_title_20 : decode cX11_title 20 = .ok (.iload_n 2, 1) := by decide +kernel
theorem dX11_title_21 : decode cX11_title 21 = .ok (.invokevirtual 341, 3) := by decide +kernel
theorem dX11_title_24 : decode cX11_title 24 = .ok (.aload_n 0, 1) := by decide +kernel
theorem dX11_title_25 : decode cX11_title 25 = .ok (.getfield 113, 3) := by decide +kernel
theorem dX11_title_28 : decode cX11_title 28 = .ok (.iload_n 3, 1) := by decide +kernel
theorem dX11_title_29 : decode cX11_title 29 = .ok (.iaload, 1) := by decide +kernel
theorem dX11_title_30 : decode cX11_title 30 = .ok (.ireturn, 1) := by decide +kernel
theorem dX11_when_0 : decode cX11_when 0 = .ok (.iload_n 1, 1) := by decide +kernel
theorem dX11_when_1 : decode cX11_when 1 = .ok (.invokestatic 165, 3) := by decide +kernel
theorem dX11_when_4 : decode cX11_when 4 = .ok (.ifCond .eq 22, 3) := by decide +kernel
theorem dX11_when_7 : decode cX11_when 7 = .ok (.aload_n 0, 1) := by decide +kernel
theorem dX11_when_8 : decode cX11_when 8 = .ok (.iload_n 2, 1) := by decide +kernel
theorem dX11_when_9 : decode cX11_when 9 = .ok (.iload_n 3, 1) := by decide +kernel
theorem dX11_when_10 : decode cX11_when 10 = .ok (.invokevirtual 188, 3) := by decide +kernel
theorem dX11_when_13 : decode cX11_when 13 = .ok (.ifCond .eq 13, 3) := by decide +kernel
theorem dX11_when_16 : decode cX11_when 16 = .ok (.iload 4, 2) := by decide +kernel
theorem dX11_when_18 : decode cX11_when 18 = .ok (.iconst 0, 1) := by decide +kernel
theorem dX11_when_19 : decode cX11_when 19 = .ok (.iconst 1, 1) := by decide +kernel
theorem dX11_when_20 : decode cX11_when 20 = .ok (.invokestatic 161, 3) := by decide +kernel
theorem dX11_when_23 : decode cX11_when 23 = .ok (.ifCond .ne 5, 3) := by decide +kernel
theorem dX11_when_26 : decode cX11_when 26 = .ok (.iconst (-1), 1) := by decide +kernel
theorem dX11_when_27 : decode cX11_when 27 = .ok (.ireturn, 1) := by decide +kernel
theorem dX11_when_28 : decode cX11_when 28 = .ok (.aload_n 0, 1) := by decide +kernel
theorem dX11_when_29 : decode cX11_when 29 = .ok (.iload_n 1, 1) := by decide +kernel
theorem dX11_when_30 : decode cX11_when 30 = .ok (.iload_n 2, 1) := by decide +kernel
theorem dX11_when_31 : decode cX11_when 31 = .ok (.invokevirtual 341, 3) := by decide +kernel
theorem dX11_when_34 : decode cX11_when 34 = .ok (.iload 4, 2) := by decide +kernel
theorem dX11_when_36 : decode cX11_when 36 = .ok (.ifCond .ne 12, 3) := by decide +kernel
theorem dX11_when_39 : decode cX11_when 39 = .ok (.aload_n 0, 1) := by decide +kernel
theorem dX11_when_40 : decode cX11_when 40 = .ok (.getfield 116, 3) := by decide +kernel
theorem dX11_when_43 : decode cX11_when 43 = .ok (.iload_n 3, 1) := by decide +kernel
theorem dX11_when_44 : decode cX11_when 44 = .ok (.iaload, 1) := by decide +kernel
theorem dX11_when_45 : decode cX11_when 45 = .ok (.goto 17, 3) := by decide +kernel
theorem dX11_when_48 : decode cX11_when 48 = .ok (.aload_n 0, 1) := by decide +kernel
theorem dX11_when_49 : decode cX11_when 49 = .ok (.getfield 119, 3) := by decide +kernel
theorem dX11_when_52 : decode cX11_when 52 = .ok (.iload_n 3, 1) := by decide +kernel
theorem dX11_when_53 : decode cX11_when 53 = .ok (.baload, 1) := by decide +kernel
theorem dX11_when_54 : decode cX11_when 54 = .ok (.ifCond .eq 7, 3) := by decide +kernel
theorem dX11_when_57 : decode cX11_when 57 = .ok (.iconst 1, 1) := by decide +kernel
theorem dX11_when_58 : decode cX11_when 58 = .ok (.goto 4, 3) := by decide +kernel
theorem dX11_when_61 : decode cX11_when 61 = .ok (.iconst 0, 1) := by decide +kernel
theorem dX11_when_62 : decode cX11_when 62 = .ok (.ireturn, 1) := by decide +kernel
theorem dX11_triesAll_0 : decode cX11_triesAll 0 = .ok (.aload_n 0, 1) := by decide +kernel
theorem dX11_triesAll_1 : decode cX11_triesAll 1 = .ok (.iconst 0, 1) := by decide +kernel
theorem dX11_triesAll_2 : decode cX11_triesAll 2 = .ok (.putfield 347, 3) := by decide +kernel
theorem dX11_triesAll_5 : decode cX11_triesAll 5 = .ok (.aload_n 0, 1) := by decide +kernel
theorem dX11_triesAll_6 : decode cX11_triesAll 6 = .ok (.getfield 126, 3) := by decide +kernel
theorem dX11_triesAll_9 : decode cX11_triesAll 9 = .ok (.iconst 0, 1) := by decide +kernel
theorem dX11_triesAll_10 : decode cX11_triesAll 10 = .ok (.iconst 1, 1) := by decide +kernel
theorem dX11_triesAll_11 : decode cX11_triesAll 11 = .ok (.iastore, 1) := by decide +kernel
theorem dX11_triesAll_12 : decode cX11_triesAll 12 = .ok (.iconst 0, 1) := by decide +kernel
theorem dX11_triesAll_13 : decode cX11_triesAll 13 = .ok (.istore_n 3, 1) := by decide +kernel
theorem dX11_triesAll_14 : decode cX11_triesAll 14 = .ok (.iload_n 3, 1) := by decide +kernel
theorem dX11_triesAll_15 : decode cX11_triesAll 15 = .ok (.aload_n 0, 1) := by decide +kernel
theorem dX11_triesAll_16 : decode cX11_triesAll 16 = .ok (.getfield 25, 3) := by decide +kernel
theorem dX11_triesAll_19 : decode cX11_triesAll 19 = .ok (.iload_n 2, 1) := by decide +kernel
theorem dX11_triesAll_20 : decode cX11_triesAll 20 = .ok (.iaload, 1) := by decide +kernel
theorem dX11_triesAll_21 : decode cX11_triesAll 21 = .ok (.if_icmp .ge 57, 3) := by decide +kernel
theorem dX11_triesAll_24 : decode cX11_triesAll 24 = .ok (.aload_n 0, 1) := by decide +kernel
theorem dX11_triesAll_25 : decode cX11_triesAll 25 = .ok (.getfield 46, 3) := by decide +kernel
theorem dX11_triesAll_28 : decode cX11_triesAll 28 = .ok (.bipush 22, 2) := by decide +kernel
theorem dX11_triesAll_30 : decode cX11_triesAll 30 = .ok (.iload_n 2, 1) := by decide +kernel
theorem dX11_triesAll_31 : decode cX11_triesAll 31 = .ok (.imul, 1) := by decide +kernel
theorem dX11_triesAll_32 : decode cX11_triesAll 32 = .ok (.iload_n 3, 1) := by decide +kernel
theorem dX11_triesAll_33 : decode cX11_triesAll 33 = .ok (.iadd, 1) := by decide +kernel
theorem dX11_triesAll_34 : decode cX11_triesAll 34 = .ok (.iaload, 1) := by decide +kernel
theorem dX11_triesAll_35 : decode cX11_triesAll 35 = .ok (.aload_n 0, 1) := by decide +kernel
theorem dX11_triesAll_36 : decode cX11_triesAll 36 = .ok (.getfield 49, 3) := by decide +kernel
theorem dX11_triesAll_39 : decode cX11_triesAll 39 = .ok (.bipush 22, 2) := by decide +kernel
theorem dX11_triesAll_41 : decode cX11_triesAll 41 = .ok (.iload_n 2, 1) := by decide +kernel
theorem dX11_triesAll_42 : decode cX11_triesAll 42 = .ok (.imul, 1) := by decide +kernel
theorem dX11_triesAll_43 : decode cX11_triesAll 43 = .ok (.iload_n 3, 1) := by decide +kernel
theorem dX11_triesAll_44 : decode cX11_triesAll 44 = .ok (.iadd, 1) := by decide +kernel
theorem dX11_triesAll_45 : decode cX11_triesAll 45 = .ok (.iaload, 1) := by decide +kernel
theorem dX11_triesAll_46 : decode cX11_triesAll 46 = .ok (.if_icmp .ne 6, 3) := by decide +kernel
theorem dX11_triesAll_49 : decode cX11_triesAll 49 = .ok (.goto 23, 3) := by decide +kernel
theorem dX11_triesAll_52 : decode cX11_triesAll 52 = .ok (.aload_n 0, 1) := by decide +kernel
theorem dX11_triesAll_53 : decode cX11_triesAll 53 = .ok (.getfield 123, 3) := by decide +kernel
theorem dX11_triesAll_56 : decode cX11_triesAll 56 = .ok (.aload_n 0, 1) := by decide +kernel
theorem dX11_triesAll_57 : decode cX11_triesAll 57 = .ok (.getfield 347, 3) := by decide +kernel
theorem dX11_triesAll_60 : decode cX11_triesAll 60 = .ok (.iload_n 3, 1) := by decide +kernel
theorem dX11_triesAll_61 : decode cX11_triesAll 61 = .ok (.iastore, 1) := by decide +kernel
theorem dX11_triesAll_62 : decode cX11_triesAll 62 = .ok (.aload_n 0, 1) := by decide +kernel
theorem dX11_triesAll_63 : decode cX11_triesAll 63 = .ok (.aload_n 0, 1) := by decide +kernel
theorem dX11_triesAll_64 : decode cX11_triesAll 64 = .ok (.getfield 347, 3) := by decide +kernel
theorem dX11_triesAll_67 : decode cX11_triesAll 67 = .ok (.iconst 1, 1) := by decide +kernel
theorem dX11_triesAll_68 : decode cX11_triesAll 68 = .ok (.iadd, 1) := by decide +kernel
theorem dX11_triesAll_69 : decode cX11_triesAll 69 = .ok (.putfield 347, 3) := by decide +kernel
theorem dX11_triesAll_72 : decode cX11_triesAll 72 = .ok (.iinc 3 1, 3) := by decide +kernel
theorem dX11_triesAll_75 : decode cX11_triesAll 75 = .ok (.goto (-61), 3) := by decide +kernel
theorem dX11_triesAll_78 : decode cX11_triesAll 78 = .ok (.aload_n 0, 1) := by decide +kernel
theorem dX11_triesAll_79 : decode cX11_triesAll 79 = .ok (.getfield 347, 3) := by decide +kernel
theorem dX11_triesAll_82 : decode cX11_triesAll 82 = .ok (.bipush 8, 2) := by decide +kernel
theorem dX11_triesAll_84 : decode cX11_triesAll 84 = .ok (.if_icmp .le 5, 3) := by decide +kernel
theorem dX11_triesAll_87 : decode cX11_triesAll 87 = .ok (.iconst 0, 1) := by decide +kernel
theorem dX11_triesAll_88 : decode cX11_triesAll 88 = .ok (.ireturn, 1) := by decide +kernel
theorem dX11_triesAll_89 : decode cX11_triesAll 89 = .ok (.iconst 0, 1) := by decide +kernel
theorem dX11_triesAll_90 : decode cX11_triesAll 90 = .ok (.istore_n 3, 1) := by decide +kernel
theorem dX11_triesAll_91 : decode cX11_triesAll 91 = .ok (.iload_n 3, 1) := by decide +kernel
theorem dX11_triesAll_92 : decode cX11_triesAll 92 = .ok (.aload_n 0, 1) := by decide +kernel
theorem dX11_triesAll_93 : decode cX11_triesAll 93 = .ok (.getfield 347, 3) := by decide +kernel
theorem dX11_triesAll_96 : decode cX11_triesAll 96 = .ok (.if_icmp .ge 25, 3) := by decide +kernel
theorem dX11_triesAll_99 : decode cX11_triesAll 99 = .ok (.aload_n 0, 1) := by decide +kernel
theorem dX11_triesAll_100 : decode cX11_triesAll 100 = .ok (.getfield 126, 3) := by decide +kernel
theorem dX11_triesAll_103 : decode cX11_triesAll 103 = .ok (.iload_n 3, 1) := by decide +kernel
theorem dX11_triesAll_104 : decode cX11_triesAll 104 = .ok (.iconst 1, 1) := by decide +kernel
theorem dX11_triesAll_105 : decode cX11_triesAll 105 = .ok (.iadd, 1) := by decide +kernel
theorem dX11_triesAll_106 : decode cX11_triesAll 106 = .ok (.iconst 3, 1) := by decide +kernel
theorem dX11_triesAll_107 : decode cX11_triesAll 107 = .ok (.aload_n 0, 1) := by decide +kernel
theorem dX11_triesAll_108 : decode cX11_triesAll 108 = .ok (.getfield 126, 3) := by decide +kernel
theorem dX11_triesAll_111 : decode cX11_triesAll 111 = .ok (.iload_n 3, 1) := by decide +kernel
theorem dX11_triesAll_112 : decode cX11_triesAll 112 = .ok (.iaload, 1) := by decide +kernel
theorem dX11_triesAll_113 : decode cX11_triesAll 113 = .ok (.imul, 1) := by decide +kernel
theorem dX11_triesAll_114 : decode cX11_triesAll 114 = .ok (.iastore, 1) := by decide +kernel
theorem dX11_triesAll_115 : decode cX11_triesAll 115 = .ok (.iinc 3 1, 3) := by decide +kernel
theorem dX11_triesAll_118 : decode cX11_triesAll 118 = .ok (.goto (-27), 3) := by decide +kernel
theorem dX11_triesAll_121 : decode cX11_triesAll 121 = .ok (.aload_n 0, 1) := by decide +kernel
theorem dX11_triesAll_122 : decode cX11_triesAll 122 = .ok (.iconst 0, 1) := by decide +kernel
theorem dX11_triesAll_123 : decode cX11_triesAll 123 = .ok (.putfield 308, 3) := by decide +kernel
theorem dX11_triesAll_126 : decode cX11_triesAll 126 = .ok (.aload_n 0, 1) := by decide +kernel
theorem dX11_triesAll_127 : decode cX11_triesAll 127 = .ok (.iload_n 2, 1) := by decide +kernel
theorem dX11_triesAll_128 : decode cX11_triesAll 128 = .ok (.invokevirtual 334, 3) := by decide +kernel
theorem dX11_triesAll_131 : decode cX11_triesAll 131 = .ok (.iconst 0, 1) := by decide +kernel
theorem dX11_triesAll_132 : decode cX11_triesAll 132 = .ok (.istore_n 3, 1) := by decide +kernel
theorem dX11_triesAll_133 : decode cX11_triesAll 133 = .ok (.iload_n 3, 1) := by decide +kernel
theorem dX11_triesAll_134 : decode cX11_triesAll 134 = .ok (.aload_n 0, 1) := by decide +kernel
theorem dX11_triesAll_135 : decode cX11_triesAll 135 = .ok (.getfield 126, 3) := by decide +kernel
theorem dX11_triesAll_138 : decode cX11_triesAll 138 = .ok (.aload_n 0, 1) := by decide +kernel
theorem dX11_triesAll_139 : decode cX11_triesAll 139 = .ok (.getfield 347, 3) := by decide +kernel
theorem dX11_triesAll_142 : decode cX11_triesAll 142 = .ok (.iaload, 1) := by decide +kernel
theorem dX11_triesAll_143 : decode cX11_triesAll 143 = .ok (.if_icmp .ge 146, 3) := by decide +kernel
theorem dX11_triesAll_146 : decode cX11_triesAll 146 = .ok (.iconst 1, 1) := by decide +kernel
theorem dX11_triesAll_147 : decode cX11_triesAll 147 = .ok (.istore 4, 2) := by decide +kernel
theorem dX11_triesAll_149 : decode cX11_triesAll 149 = .ok (.iconst 0, 1) := by decide +kernel
theorem dX11_triesAll_150 : decode cX11_triesAll 150 = .ok (.istore 5, 2) := by decide +kernel
theorem dX11_triesAll_152 : decode cX11_triesAll 152 = .ok (.iload 5, 2) := by decide +kernel
theorem dX11_triesAll_154 : decode cX11_triesAll 154 = .ok (.aload_n 0, 1) := by decide +kernel
theorem dX11_triesAll_155 : decode cX11_triesAll 155 = .ok (.getfield 347, 3) := by decide +kernel
theorem dX11_triesAll_158 : decode cX11_triesAll 158 = .ok (.if_icmp .ge 88, 3) := by decide +kernel
theorem dX11_triesAll_161 : decode cX11_triesAll 161 = .ok (.bipush 22, 2) := by decide +kernel
theorem dX11_triesAll_163 : decode cX11_triesAll 163 = .ok (.iload_n 2, 1) := by decide +kernel
theorem dX11_triesAll_164 : decode cX11_triesAll 164 = .ok (.imul, 1) := by decide +kernel
theorem dX11_triesAll_165 : decode cX11_triesAll 165 = .ok (.aload_n 0, 1) := by decide +kernel
theorem dX11_triesAll_166 : decode cX11_triesAll 166 = .ok (.getfield 123, 3) := by decide +kernel
theorem dX11_triesAll_169 : decode cX11_triesAll 169 = .ok (.iload 5, 2) := by decide +kernel
theorem dX11_triesAll_171 : decode cX11_triesAll 171 = .ok (.iaload, 1) := by decide +kernel
theorem dX11_triesAll_172 : decode cX11_triesAll 172 = .ok (.iadd, 1) := by decide +kernel
theorem dX11_triesAll_173 : decode cX11_triesAll 173 = .ok (.istore 6, 2) := by decide +kernel
theorem dX11_triesAll_175 : decode cX11_triesAll 175 = .ok (.aload_n 0, 1) := by decide +kernel
theorem dX11_triesAll_176 : decode cX11_triesAll 176 = .ok (.getfield 98, 3) := by decide +kernel
theorem dX11_triesAll_179 : decode cX11_triesAll 179 = .ok (.aload_n 0, 1) := by decide +kernel
theorem dX11_triesAll_180 : decode cX11_triesAll 180 = .ok (.getfield 123, 3) := by decide +kernel
theorem dX11_triesAll_183 : decode cX11_triesAll 183 = .ok (.iload 5, 2) := by decide +kernel
theorem dX11_triesAll_185 : decode cX11_triesAll 185 = .ok (.iaload, 1) := by decide +kernel
theorem dX11_triesAll_186 : decode cX11_triesAll 186 = .ok (.aload_n 0, 1) := by decide +kernel
theorem dX11_triesAll_187 : decode cX11_triesAll 187 = .ok (.getfield 46, 3) := by decide +kernel
theorem dX11_triesAll_190 : decode cX11_triesAll 190 = .ok (.iload 6, 2) := by decide +kernel
theorem dX11_triesAll_192 : decode cX11_triesAll 192 = .ok (.iaload, 1) := by decide +kernel
theorem dX11_triesAll_193 : decode cX11_triesAll 193 = .ok (.iload_n 3, 1) := by decide +kernel
theorem dX11_triesAll_194 : decode cX11_triesAll 194 = .ok (.aload_n 0, 1) := by decide +kernel
theorem dX11_triesAll_195 : decode cX11_triesAll 195 = .ok (.getfield 126, 3) := by decide +kernel
theorem dX11_triesAll_198 : decode cX11_triesAll 198 = .ok (.iload 5, 2) := by decide +kernel
theorem dX11_triesAll_200 : decode cX11_triesAll 200 = .ok (.iaload, 1) := by decide +kernel
theorem dX11_triesAll_201 : decode cX11_triesAll 201 = .ok (.idiv, 1) := by decide +kernel
theorem dX11_triesAll_202 : decode cX11_triesAll 202 = .ok (.iconst 3, 1) := by decide +kernel
theorem dX11_triesAll_203 : decode cX11_triesAll 203 = .ok (.irem, 1) := by decide +kernel
theorem dX11_triesAll_204 : decode cX11_triesAll 204 = .ok (.iadd, 1) := by decide +kernel
theorem dX11_triesAll_205 : decode cX11_triesAll 205 = .ok (.iastore, 1) := by decide +kernel
theorem dX11_triesAll_206 : decode cX11_triesAll 206 = .ok (.iload 4, 2) := by decide +kernel
theorem dX11_triesAll_208 : decode cX11_triesAll 208 = .ok (.ifCond .eq 29, 3) := by decide +kernel
theorem dX11_triesAll_211 : decode cX11_triesAll 211 = .ok (.aload_n 0, 1) := by decide +kernel
theorem dX11_triesAll_212 : decode cX11_triesAll 212 = .ok (.getfield 98, 3) := by decide +kernel
theorem dX11_triesAll_215 : decode cX11_triesAll 215 = .ok (.aload_n 0, 1) := by decide +kernel
theorem dX11_triesAll_216 : decode cX11_triesAll 216 = .ok (.getfield 123, 3) := by decide +kernel
theorem dX11_triesAll_219 : decode cX11_triesAll 219 = .ok (.iload 5, 2) := by decide +kernel
theorem dX11_triesAll_221 : decode cX11_triesAll 221 = .ok (.iaload, 1) := by decide +kernel
theorem dX11_triesAll_222 : decode cX11_triesAll 222 = .ok (.iaload, 1) := by decide +kernel
theorem dX11_triesAll_223 : decode cX11_triesAll 223 = .ok (.aload_n 0, 1) := by decide +kernel
theorem dX11_triesAll_224 : decode cX11_triesAll 224 = .ok (.getfield 49, 3) := by decide +kernel
theorem dX11_triesAll_227 : decode cX11_triesAll 227 = .ok (.iload 6, 2) := by decide +kernel
theorem dX11_triesAll_229 : decode cX11_triesAll 229 = .ok (.iaload, 1) := by decide +kernel
theorem dX11_triesAll_230 : decode cX11_triesAll 230 = .ok (.if_icmp .gt 7, 3) := by decide +kernel
theorem dX11_triesAll_233 : decode cX11_triesAll 233 = .ok (.iconst 1, 1) := by decide +kernel
theorem dX11_triesAll_234 : decode cX11_triesAll 234 = .ok (.goto 4, 3) := by decide +kernel
theorem dX11_triesAll_237 : decode cX11_triesAll 237 = .ok (.iconst 0, 1) := by decide +kernel
theorem dX11_triesAll_238 : decode cX11_triesAll 238 = .ok (.istore 4, 2) := by decide +kernel
theorem dX11_triesAll_240 : decode cX11_triesAll 240 = .ok (.iinc 5 1, 3) := by decide +kernel
theorem dX11_triesAll_243 : decode cX11_triesAll 243 = .ok (.goto (-91), 3) := by decide +kernel
theorem dX11_triesAll_246 : decode cX11_triesAll 246 = .ok (.aload_n 0, 1) := by decide +kernel
theorem dX11_triesAll_247 : decode cX11_triesAll 247 = .ok (.getfield 129, 3) := by decide +kernel
theorem dX11_triesAll_250 : decode cX11_triesAll 250 = .ok (.iload_n 3, 1) := by decide +kernel
theorem dX11_triesAll_251 : decode cX11_triesAll 251 = .ok (.iconst (-1), 1) := by decide +kernel
theorem dX11_triesAll_252 : decode cX11_triesAll 252 = .ok (.iastore, 1) := by decide +kernel
theorem dX11_triesAll_253 : decode cX11_triesAll 253 = .ok (.iload 4, 2) := by decide +kernel
theorem dX11_triesAll_255 : decode cX11_triesAll 255 = .ok (.ifCond .ne 6, 3) := by decide +kernel
theorem dX11_triesAll_258 : decode cX11_triesAll 258 = .ok (.goto 25, 3) := by decide +kernel
theorem dX11_triesAll_261 : decode cX11_triesAll 261 = .ok (.aload_n 0, 1) := by decide +kernel
theorem dX11_triesAll_262 : decode cX11_triesAll 262 = .ok (.iload_n 1, 1) := by decide +kernel
theorem dX11_triesAll_263 : decode cX11_triesAll 263 = .ok (.iload_n 2, 1) := by decide +kernel
theorem dX11_triesAll_264 : decode cX11_triesAll 264 = .ok (.aload_n 0, 1) := by decide +kernel
theorem dX11_triesAll_265 : decode cX11_triesAll 265 = .ok (.getfield 25, 3) := by decide +kernel
theorem dX11_triesAll_268 : decode cX11_triesAll 268 = .ok (.iload_n 2, 1) := by decide +kernel
theorem dX11_triesAll_269 : decode cX11_triesAll 269 = .ok (.iaload, 1) := by decide +kernel
theorem dX11_triesAll_270 : decode cX11_triesAll 270 = .ok (.invokevirtual 337, 3) := by decide +kernel
theorem dX11_triesAll_273 : decode cX11_triesAll 273 = .ok (.aload_n 0, 1) := by decide +kernel
theorem dX11_triesAll_274 : decode cX11_triesAll 274 = .ok (.getfield 129, 3) := by decide +kernel
theorem dX11_triesAll_277 : decode cX11_triesAll 277 = .ok (.iload_n 3, 1) := by decide +kernel
theorem dX11_triesAll_278 : decode cX11_triesAll 278 = .ok (.aload_n 0, 1) := by decide +kernel
theorem dX11_triesAll_279 : decode cX11_triesAll 279 = .ok (.getfield 331, 3) := by decide +kernel
theorem dX11_triesAll_282 : decode cX11_triesAll 282 = .ok (.iastore, 1) := by decide +kernel
theorem dX11_triesAll_283 : decode cX11_triesAll 283 = .ok (.iinc 3 1, 3) := by decide +kernel
theorem dX11_triesAll_286 : decode cX11_triesAll 286 = .ok (.goto (-153), 3) := by decide +kernel
theorem dX11_triesAll_289 : decode cX11_triesAll 289 = .ok (.iconst 1, 1) := by decide +kernel
theorem dX11_triesAll_290 : decode cX11_triesAll 290 = .ok (.ireturn, 1) := by decide +kernel
theorem dX11_may_0 : decode cX11_may 0 = .ok (.aload_n 0, 1) := by decide +kernel
theorem dX11_may_1 : decode cX11_may 1 = .ok (.iload_n 1, 1) := by decide +kernel
theorem dX11_may_2 : decode cX11_may 2 = .ok (.iload_n 2, 1) := by decide +kernel
theorem dX11_may_3 : decode cX11_may 3 = .ok (.invokevirtual 344, 3) := by decide +kernel
theorem dX11_may_6 : decode cX11_may 6 = .ok (.ifCond .eq 12, 3) := by decide +kernel
theorem dX11_may_9 : decode cX11_may 9 = .ok (.aload_n 0, 1) := by decide +kernel
theorem dX11_may_10 : decode cX11_may 10 = .ok (.iload_n 1, 1) := by decide +kernel
theorem dX11_may_11 : decode cX11_may 11 = .ok (.iload_n 2, 1) := by decide +kernel
theorem dX11_may_12 : decode cX11_may 12 = .ok (.invokevirtual 350, 3) := by decide +kernel
theorem dX11_may_15 : decode cX11_may 15 = .ok (.ifCond .ne 5, 3) := by decide +kernel
theorem dX11_may_18 : decode cX11_may 18 = .ok (.iconst (-1), 1) := by decide +kernel
theorem dX11_may_19 : decode cX11_may 19 = .ok (.ireturn, 1) := by decide +kernel
theorem dX11_may_20 : decode cX11_may 20 = .ok (.iconst 0, 1) := by decide +kernel
theorem dX11_may_21 : decode cX11_may 21 = .ok (.istore_n 3, 1) := by decide +kernel
theorem dX11_may_22 : decode cX11_may 22 = .ok (.iconst 0, 1) := by decide +kernel
theorem dX11_may_23 : decode cX11_may 23 = .ok (.istore 4, 2) := by decide +kernel
theorem dX11_may_25 : decode cX11_may 25 = .ok (.iload 4, 2) := by decide +kernel
theorem dX11_may_27 : decode cX11_may 27 = .ok (.aload_n 0, 1) := by decide +kernel
theorem dX11_may_28 : decode cX11_may 28 = .ok (.getfield 126, 3) := by decide +kernel
theorem dX11_may_31 : decode cX11_may 31 = .ok (.aload_n 0, 1) := by decide +kernel
theorem dX11_may_32 : decode cX11_may 32 = .ok (.getfield 347, 3) := by decide +kernel
theorem dX11_may_35 : decode cX11_may 35 = .ok (.iaload, 1) := by decide +kernel
theorem dX11_may_36 : decode cX11_may 36 = .ok (.if_icmp .ge 36, 3) := by decide +kernel
theorem dX11_may_39 : decode cX11_may 39 = .ok (.aload_n 0, 1) := by decide +kernel
theorem dX11_may_40 : decode cX11_may 40 = .ok (.getfield 129, 3) := by decide +kernel
theorem dX11_may_43 : decode cX11_may 43 = .ok (.iload 4, 2) := by decide +kernel
theorem dX11_may_45 : decode cX11_may 45 = .ok (.iaload, 1) := by decide +kernel
theorem dX11_may_46 : decode cX11_may 46 = .ok (.iconst (-1), 1) := by decide +kernel
theorem dX11_may_47 : decode cX11_may 47 = .ok (.if_icmp .ne 7, 3) := by decide +kernel
theorem dX11_may_50 : decode cX11_may 50 = .ok (.iload_n 3, 1) := by decide +kernel
theorem dX11_may_51 : decode cX11_may 51 = .ok (.goto 14, 3) := by decide +kernel
theorem dX11_may_54 : decode cX11_may 54 = .ok (.iload_n 3, 1) := by decide +kernel
theorem dX11_may_55 : decode cX11_may 55 = .ok (.iconst 1, 1) := by decide +kernel
theorem dX11_may_56 : decode cX11_may 56 = .ok (.aload_n 0, 1) := by decide +kernel
theorem dX11_may_57 : decode cX11_may 57 = .ok (.getfield 129, 3) := by decide +kernel
theorem dX11_may_60 : decode cX11_may 60 = .ok (.iload 4, 2) := by decide +kernel
theorem dX11_may_62 : decode cX11_may 62 = .ok (.iaload, 1) := by decide +kernel
theorem dX11_may_63 : decode cX11_may 63 = .ok (.ishl, 1) := by decide +kernel
theorem dX11_may_64 : decode cX11_may 64 = .ok (.ior, 1) := by decide +kernel
theorem dX11_may_65 : decode cX11_may 65 = .ok (.istore_n 3, 1) := by decide +kernel
theorem dX11_may_66 : decode cX11_may 66 = .ok (.iinc 4 1, 3) := by decide +kernel
theorem dX11_may_69 : decode cX11_may 69 = .ok (.goto (-44), 3) := by decide +kernel
theorem dX11_may_72 : decode cX11_may 72 = .ok (.iload_n 3, 1) := by decide +kernel
theorem dX11_may_73 : decode cX11_may 73 = .ok (.ireturn, 1) := by decide +kernel
theorem dX11_hangs_0 : decode cX11_hangs 0 = .ok (.aload_n 0, 1) := by decide +kernel
theorem dX11_hangs_1 : decode cX11_hangs 1 = .ok (.iload_n 1, 1) := by decide +kernel
theorem dX11_hangs_2 : decode cX11_hangs 2 = .ok (.iload_n 2, 1) := by decide +kernel
theorem dX11_hangs_3 : decode cX11_hangs 3 = .ok (.invokevirtual 344, 3) := by decide +kernel
theorem dX11_hangs_6 : decode cX11_hangs 6 = .ok (.ifCond .eq 12, 3) := by decide +kernel
theorem dX11_hangs_9 : decode cX11_hangs 9 = .ok (.aload_n 0, 1) := by decide +kernel
theorem dX11_hangs_10 : decode cX11_hangs 10 = .ok (.iload_n 1, 1) := by decide +kernel
theorem dX11_hangs_11 : decode cX11_hangs 11 = .ok (.iload_n 2, 1) := by decide +kernel
theorem dX11_hangs_12 : decode cX11_hangs 12 = .ok (.invokevirtual 350, 3) := by decide +kernel
theorem dX11_hangs_15 : decode cX11_hangs 15 = .ok (.ifCond .ne 5, 3) := by decide +kernel
theorem dX11_hangs_18 : decode cX11_hangs 18 = .ok (.iconst (-1), 1) := by decide +kernel
theorem dX11_hangs_19 : decode cX11_hangs 19 = .ok (.ireturn, 1) := by decide +kernel
theorem dX11_hangs_20 : decode cX11_hangs 20 = .ok (.iconst 0, 1) := by decide +kernel
theorem dX11_hangs_21 : decode cX11_hangs 21 = .ok (.istore_n 3, 1) := by decide +kernel
theorem dX11_hangs_22 : decode cX11_hangs 22 = .ok (.iconst 0, 1) := by decide +kernel
theorem dX11_hangs_23 : decode cX11_hangs 23 = .ok (.istore 4, 2) := by decide +kernel
theorem dX11_hangs_25 : decode cX11_hangs 25 = .ok (.iload 4, 2) := by decide +kernel
theorem dX11_hangs_27 : decode cX11_hangs 27 = .ok (.aload_n 0, 1) := by decide +kernel
theorem dX11_hangs_28 : decode cX11_hangs 28 = .ok (.getfield 347, 3) := by decide +kernel
theorem dX11_hangs_31 : decode cX11_hangs 31 = .ok (.if_icmp .ge 101, 3) := by decide +kernel
theorem dX11_hangs_34 : decode cX11_hangs 34 = .ok (.iconst 0, 1) := by decide +kernel
theorem dX11_hangs_35 : decode cX11_hangs 35 = .ok (.istore 5, 2) := by decide +kernel
theorem dX11_hangs_37 : decode cX11_hangs 37 = .ok (.iload 5, 2) := by decide +kernel
theorem dX11_hangs_39 : decode cX11_hangs 39 = .ok (.aload_n 0, 1) := by decide +kernel
theorem dX11_hangs_40 : decode cX11_hangs 40 = .ok (.getfield 126, 3) := by decide +kernel
theorem dX11_hangs_43 : decode cX11_hangs 43 = .ok (.aload_n 0, 1) := by decide +kernel
theorem dX11_hangs_44 : decode cX11_hangs 44 = .ok (.getfield 347, 3) := by decide +kernel
theorem dX11_hangs_47 : decode cX11_hangs 47 = .ok (.iaload, 1) := by decide +kernel
theorem dX11_hangs_48 : decode cX11_hangs 48 = .ok (.if_icmp .ge 78, 3) := by decide +kernel
theorem dX11_hangs_51 : decode cX11_hangs 51 = .ok (.iload 5, 2) := by decide +kernel
theorem dX11_hangs_53 : decode cX11_hangs 53 = .ok (.aload_n 0, 1) := by decide +kernel
theorem dX11_hangs_54 : decode cX11_hangs 54 = .ok (.getfield 126, 3) := by decide +kernel
theorem dX11_hangs_57 : decode cX11_hangs 57 = .ok (.iload 4, 2) := by decide +kernel
theorem dX11_hangs_59 : decode cX11_hangs 59 = .ok (.iaload, 1) := by decide +kernel
theorem dX11_hangs_60 : decode cX11_hangs 60 = .ok (.idiv, 1) := by decide +kernel
theorem dX11_hangs_61 : decode cX11_hangs 61 = .ok (.iconst 3, 1) := by decide +kernel
theorem dX11_hangs_62 : decode cX11_hangs 62 = .ok (.irem, 1) := by decide +kernel
theorem dX11_hangs_63 : decode cX11_hangs 63 = .ok (.istore 6, 2) := by decide +kernel
theorem dX11_hangs_65 : decode cX11_hangs 65 = .ok (.iload 5, 2) := by decide +kernel
theorem dX11_hangs_67 : decode cX11_hangs 67 = .ok (.iload 6, 2) := by decide +kernel
theorem dX11_hangs_69 : decode cX11_hangs 69 = .ok (.aload_n 0, 1) := by decide +kernel
theorem dX11_hangs_70 : decode cX11_hangs 70 = .ok (.getfield 126, 3) := by decide +kernel
theorem dX11_hangs_73 : decode cX11_hangs 73 = .ok (.iload 4, 2) := by decide +kernel
theorem dX11_hangs_75 : decode cX11_hangs 75 = .ok (.iaload, 1) := by decide +kernel
theorem dX11_hangs_76 : decode cX11_hangs 76 = .ok (.imul, 1) := by decide +kernel
theorem dX11_hangs_77 : decode cX11_hangs 77 = .ok (.isub, 1) := by decide +kernel
theorem dX11_hangs_78 : decode cX11_hangs 78 = .ok (.istore 7, 2) := by decide +kernel
theorem dX11_hangs_80 : decode cX11_hangs 80 = .ok (.aload_n 0, 1) := by decide +kernel
theorem dX11_hangs_81 : decode cX11_hangs 81 = .ok (.getfield 129, 3) := by decide +kernel
theorem dX11_hangs_84 : decode cX11_hangs 84 = .ok (.iload 5, 2) := by decide +kernel
theorem dX11_hangs_86 : decode cX11_hangs 86 = .ok (.iaload, 1) := by decide +kernel
theorem dX11_hangs_87 : decode cX11_hangs 87 = .ok (.iconst (-1), 1) := by decide +kernel
theorem dX11_hangs_88 : decode cX11_hangs 88 = .ok (.if_icmp .eq 32, 3) := by decide +kernel
theorem dX11_hangs_91 : decode cX11_hangs 91 = .ok (.aload_n 0, 1) := by decide +kernel
theorem dX11_hangs_92 : decode cX11_hangs 92 = .ok (.getfield 129, 3) := by decide +kernel
theorem dX11_hangs_95 : decode cX11_hangs 95 = .ok (.iload 5, 2) := by decide +kernel
theorem dX11_hangs_97 : decode cX11_hangs 97 = .ok (.iaload, 1) := by decide +kernel
theorem dX11_hangs_98 : decode cX11_hangs 98 = .ok (.aload_n 0, 1) := by decide +kernel
theorem dX11_hangs_99 : decode cX11_hangs 99 = .ok (.getfield 129, 3) := by decide +kernel
theorem dX11_hangs_102 : decode cX11_hangs 102 = .ok (.iload 7, 2) := by decide +kernel
theorem dX11_hangs_104 : decode cX11_hangs 104 = .ok (.iaload, 1) := by decide +kernel
theorem dX11_hangs_105 : decode cX11_hangs 105 = .ok (.if_icmp .eq 15, 3) := by decide +kernel
theorem dX11_hangs_108 : decode cX11_hangs 108 = .ok (.iload_n 3, 1) := by decide +kernel
theorem dX11_hangs_109 : decode cX11_hangs 109 = .ok (.iconst 1, 1) := by decide +kernel
theorem dX11_hangs_110 : decode cX11_hangs 110 = .ok (.aload_n 0, 1) := by decide +kernel
theorem dX11_hangs_111 : decode cX11_hangs 111 = .ok (.getfield 123, 3) := by decide +kernel
theorem dX11_hangs_114 : decode cX11_hangs 114 = .ok (.iload 4, 2) := by decide +kernel
theorem dX11_hangs_116 : decode cX11_hangs 116 = .ok (.iaload, 1) := by decide +kernel
theorem dX11_hangs_117 : decode cX11_hangs 117 = .ok (.ishl, 1) := by decide +kernel
theorem dX11_hangs_118 : decode cX11_hangs 118 = .ok (.ior, 1) := by decide +kernel
theorem dX11_hangs_119 : decode cX11_hangs 119 = .ok (.istore_n 3, 1) := by decide +kernel
theorem dX11_hangs_120 : decode cX11_hangs 120 = .ok (.iinc 5 1, 3) := by decide +kernel
theorem dX11_hangs_123 : decode cX11_hangs 123 = .ok (.goto (-86), 3) := by decide +kernel
theorem dX11_hangs_126 : decode cX11_hangs 126 = .ok (.iinc 4 1, 3) := by decide +kernel
theorem dX11_hangs_129 : decode cX11_hangs 129 = .ok (.goto (-104), 3) := by decide +kernel
theorem dX11_hangs_132 : decode cX11_hangs 132 = .ok (.iload_n 3, 1) := by decide +kernel
theorem dX11_hangs_133 : decode cX11_hangs 133 = .ok (.ireturn, 1) := by decide +kernel
theorem dX11_asks_0 : decode cX11_asks 0 = .ok (.aload_n 0, 1) := by decide +kernel
theorem dX11_asks_1 : decode cX11_asks 1 = .ok (.iload_n 1, 1) := by decide +kernel
theorem dX11_asks_2 : decode cX11_asks 2 = .ok (.iload_n 2, 1) := by decide +kernel
theorem dX11_asks_3 : decode cX11_asks 3 = .ok (.invokevirtual 341, 3) := by decide +kernel
theorem dX11_asks_6 : decode cX11_asks 6 = .ok (.iconst 0, 1) := by decide +kernel
theorem dX11_asks_7 : decode cX11_asks 7 = .ok (.istore_n 3, 1) := by decide +kernel
theorem dX11_asks_8 : decode cX11_asks 8 = .ok (.iload_n 3, 1) := by decide +kernel
theorem dX11_asks_9 : decode cX11_asks 9 = .ok (.aload_n 0, 1) := by decide +kernel
theorem dX11_asks_10 : decode cX11_asks 10 = .ok (.getfield 25, 3) := by decide +kernel
theorem dX11_asks_13 : decode cX11_asks 13 = .ok (.iload_n 2, 1) := by decide +kernel
theorem dX11_asks_14 : decode cX11_asks 14 = .ok (.iaload, 1) := by decide +kernel
theorem dX11_asks_15 : decode cX11_asks 15 = .ok (.if_icmp .ge 23, 3) := by decide +kernel
theorem dX11_asks_18 : decode cX11_asks 18 = .ok (.aload_n 0, 1) := by decide +kernel
theorem dX11_asks_19 : decode cX11_asks 19 = .ok (.getfield 132, 3) := by decide +kernel
theorem dX11_asks_22 : decode cX11_asks 22 = .ok (.iload_n 3, 1) := by decide +kernel
theorem dX11_asks_23 : decode cX11_asks 23 = .ok (.iconst (-1), 1) := by decide +kernel
theorem dX11_asks_24 : decode cX11_asks 24 = .ok (.iastore, 1) := by decide +kernel
theorem dX11_asks_25 : decode cX11_asks 25 = .ok (.aload_n 0, 1) := by decide +kernel
theorem dX11_asks_26 : decode cX11_asks 26 = .ok (.getfield 135, 3) := by decide +kernel
theorem dX11_asks_29 : decode cX11_asks 29 = .ok (.iload_n 3, 1) := by decide +kernel
theorem dX11_asks_30 : decode cX11_asks 30 = .ok (.iconst 0, 1) := by decide +kernel
theorem dX11_asks_31 : decode cX11_asks 31 = .ok (.iastore, 1) := by decide +kernel
theorem dX11_asks_32 : decode cX11_asks 32 = .ok (.iinc 3 1, 3) := by decide +kernel
theorem dX11_asks_35 : decode cX11_asks 35 = .ok (.goto (-27), 3) := by decide +kernel
theorem dX11_asks_38 : decode cX11_asks 38 = .ok (.iconst 0, 1) := by decide +kernel
theorem dX11_asks_39 : decode cX11_asks 39 = .ok (.istore_n 3, 1) := by decide +kernel
theorem dX11_asks_40 : decode cX11_asks 40 = .ok (.iload_n 3, 1) := by decide +kernel
theorem dX11_asks_41 : decode cX11_asks 41 = .ok (.aload_n 0, 1) := by decide +kernel
theorem dX11_asks_42 : decode cX11_asks 42 = .ok (.getfield 147, 3) := by decide +kernel
theorem dX11_asks_45 : decode cX11_asks 45 = .ok (.if_icmp .ge 21, 3) := by decide +kernel
theorem dX11_asks_48 : decode cX11_asks 48 = .ok (.aload_n 0, 1) := by decide +kernel
theorem dX11_asks_49 : decode cX11_asks 49 = .ok (.getfield 138, 3) := by decide +kernel
theorem dX11_asks_52 : decode cX11_asks 52 = .ok (.iload_n 3, 1) := by decide +kernel
theorem dX11_asks_53 : decode cX11_asks 53 = .ok (.aload_n 0, 1) := by decide +kernel
theorem dX11_asks_54 : decode cX11_asks 54 = .ok (.getfield 13, 3) := by decide +kernel
theorem dX11_asks_57 : decode cX11_asks 57 = .ok (.iload_n 3, 1) := by decide +kernel
theorem dX11_asks_58 : decode cX11_asks 58 = .ok (.iaload, 1) := by decide +kernel
theorem dX11_asks_59 : decode cX11_asks 59 = .ok (.iastore, 1) := by decide +kernel
theorem dX11_asks_60 : decode cX11_asks 60 = .ok (.iinc 3 1, 3) := by decide +kernel
theorem dX11_asks_63 : decode cX11_asks 63 = .ok (.goto (-23), 3) := by decide +kernel
theorem dX11_asks_66 : decode cX11_asks 66 = .ok (.aload_n 0, 1) := by decide +kernel
theorem dX11_asks_67 : decode cX11_asks 67 = .ok (.getfield 25, 3) := by decide +kernel
theorem dX11_asks_70 : decode cX11_asks 70 = .ok (.iload_n 2, 1) := by decide +kernel
theorem dX11_asks_71 : decode cX11_asks 71 = .ok (.iaload, 1) := by decide +kernel
theorem dX11_asks_72 : decode cX11_asks 72 = .ok (.iconst 1, 1) := by decide +kernel
theorem dX11_asks_73 : decode cX11_asks 73 = .ok (.isub, 1) := by decide +kernel
theorem dX11_asks_74 : decode cX11_asks 74 = .ok (.istore_n 3, 1) := by decide +kernel
theorem dX11_asks_75 : decode cX11_asks 75 = .ok (.aload_n 0, 1) := by decide +kernel
theorem dX11_asks_76 : decode cX11_asks 76 = .ok (.bipush (-2), 2) := by decide +kernel
theorem dX11_asks_78 : decode cX11_asks 78 = .ok (.putfield 353, 3) := by decide +kernel
theorem dX11_asks_81 : decode cX11_asks 81 = .ok (.aload_n 0, 1) := by decide +kernel
theorem dX11_asks_82 : decode cX11_asks 82 = .ok (.getfield 331, 3) := by decide +kernel
theorem dX11_asks_85 : decode cX11_asks 85 = .ok (.aload_n 0, 1) := by decide +kernel
theorem dX11_asks_86 : decode cX11_asks 86 = .ok (.iload_n 2, 1) := by decide +kernel
theorem dX11_asks_87 : decode cX11_asks 87 = .ok (.invokevirtual 191, 3) := by decide +kernel
theorem dX11_asks_90 : decode cX11_asks 90 = .ok (.if_icmp .ne 4, 3) := by decide +kernel
theorem dX11_asks_93 : decode cX11_asks 93 = .ok (.return_, 1) := by decide +kernel
theorem dX11_asks_94 : decode cX11_asks 94 = .ok (.aload_n 0, 1) := by decide +kernel
theorem dX11_asks_95 : decode cX11_asks 95 = .ok (.iconst 0, 1) := by decide +kernel
theorem dX11_asks_96 : decode cX11_asks 96 = .ok (.putfield 353, 3) := by decide +kernel
theorem dX11_asks_99 : decode cX11_asks 99 = .ok (.aload_n 0, 1) := by decide +kernel
theorem dX11_asks_100 : decode cX11_asks 100 = .ok (.getfield 28, 3) := by decide +kernel
theorem dX11_asks_103 : decode cX11_asks 103 = .ok (.bipush 22, 2) := by decide +kernel
theorem dX11_asks_105 : decode cX11_asks 105 = .ok (.iload_n 2, 1) := by decide +kernel
theorem dX11_asks_106 : decode cX11_asks 106 = .ok (.imul, 1) := by decide +kernel
theorem dX11_asks_107 : decode cX11_asks 107 = .ok (.iload_n 3, 1) := by decide +kernel
theorem dX11_asks_108 : decode cX11_asks 108 = .ok (.iadd, 1) := by decide +kernel
theorem dX11_asks_109 : decode cX11_asks 109 = .ok (.iaload, 1) := by decide +kernel
theorem dX11_asks_110 : decode cX11_asks 110 = .ok (.ifCond .ne 38, 3) := by decide +kernel
theorem dX11_asks_113 : decode cX11_asks 113 = .ok (.aload_n 0, 1) := by decide +kernel
theorem dX11_asks_114 : decode cX11_asks 114 = .ok (.iload_n 1, 1) := by decide +kernel
theorem dX11_asks_115 : decode cX11_asks 115 = .ok (.iload_n 2, 1) := by decide +kernel
theorem dX11_asks_116 : decode cX11_asks 116 = .ok (.iload_n 3, 1) := by decide +kernel
theorem dX11_asks_117 : decode cX11_asks 117 = .ok (.iconst 0, 1) := by decide +kernel
theorem dX11_asks_118 : decode cX11_asks 118 = .ok (.bipush 98, 2) := by decide +kernel
theorem dX11_asks_120 : decode cX11_asks 120 = .ok (.aload_n 0, 1) := by decide +kernel
theorem dX11_asks_121 : decode cX11_asks 121 = .ok (.getfield 101, 3) := by decide +kernel
theorem dX11_asks_124 : decode cX11_asks 124 = .ok (.iload_n 3, 1) := by decide +kernel
theorem dX11_asks_125 : decode cX11_asks 125 = .ok (.iaload, 1) := by decide +kernel
theorem dX11_asks_126 : decode cX11_asks 126 = .ok (.invokevirtual 327, 3) := by decide +kernel
theorem dX11_asks_129 : decode cX11_asks 129 = .ok (.ifCond .eq 19, 3) := by decide +kernel
theorem dX11_asks_132 : decode cX11_asks 132 = .ok (.aload_n 0, 1) := by decide +kernel
theorem dX11_asks_133 : decode cX11_asks 133 = .ok (.aload_n 0, 1) := by decide +kernel
theorem dX11_asks_134 : decode cX11_asks 134 = .ok (.getfield 40, 3) := by decide +kernel
theorem dX11_asks_137 : decode cX11_asks 137 = .ok (.bipush 22, 2) := by decide +kernel
theorem dX11_asks_139 : decode cX11_asks 139 = .ok (.iload_n 2, 1) := by decide +kernel
theorem dX11_asks_140 : decode cX11_asks 140 = .ok (.imul, 1) := by decide +kernel
theorem dX11_asks_141 : decode cX11_asks 141 = .ok (.iload_n 3, 1) := by decide +kernel
theorem dX11_asks_142 : decode cX11_asks 142 = .ok (.iadd, 1) := by decide +kernel
theorem dX11_asks_143 : decode cX11_asks 143 = .ok (.iaload, 1) := by decide +kernel
theorem dX11_asks_144 : decode cX11_asks 144 = .ok (.putfield 353, 3) := by decide +kernel
theorem dX11_asks_147 : decode cX11_asks 147 = .ok (.return_, 1) := by decide +kernel
theorem dX11_asks_148 : decode cX11_asks 148 = .ok (.iload_n 3, 1) := by decide +kernel
theorem dX11_asks_149 : decode cX11_asks 149 = .ok (.istore 4, 2) := by decide +kernel
theorem dX11_asks_151 : decode cX11_asks 151 = .ok (.iload 4, 2) := by decide +kernel
theorem dX11_asks_153 : decode cX11_asks 153 = .ok (.ifCond .lt 146, 3) := by decide +kernel
theorem dX11_asks_156 : decode cX11_asks 156 = .ok (.aload_n 0, 1) := by decide +kernel
theorem dX11_asks_157 : decode cX11_asks 157 = .ok (.iload_n 2, 1) := by decide +kernel
theorem dX11_asks_158 : decode cX11_asks 158 = .ok (.iload 4, 2) := by decide +kernel
theorem dX11_asks_160 : decode cX11_asks 160 = .ok (.invokevirtual 176, 3) := by decide +kernel
theorem dX11_asks_163 : decode cX11_asks 163 = .ok (.istore 5, 2) := by decide +kernel
theorem dX11_asks_165 : decode cX11_asks 165 = .ok (.aload_n 0, 1) := by decide +kernel
theorem dX11_asks_166 : decode cX11_asks 166 = .ok (.getfield 28, 3) := by decide +kernel
theorem dX11_asks_169 : decode cX11_asks 169 = .ok (.bipush 22, 2) := by decide +kernel
theorem dX11_asks_171 : decode cX11_asks 171 = .ok (.iload_n 2, 1) := by decide +kernel
theorem dX11_asks_172 : decode cX11_asks 172 = .ok (.imul, 1) := by decide +kernel
theorem dX11_asks_173 : decode cX11_asks 173 = .ok (.iload 4, 2) := by decide +kernel
