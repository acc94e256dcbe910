theorem dX10_reckons_31 : decode cX10_reckons 31 = .ok (.iload_n 2, 1) := by decide +kernel
theorem dX10_reckons_32 : decode cX10_reckons 32 = .ok (.bipush 8, 2) := by decide +kernel
theorem dX10_reckons_34 : decode cX10_reckons 34 = .ok (.if_icmp .ne 45, 3) := by decide +kernel
theorem dX10_reckons_37 : decode cX10_reckons 37 = .ok (.aload_n 0, 1) := by decide +kernel
theorem dX10_reckons_38 : decode cX10_reckons 38 = .ok (.iload_n 1, 1) := by decide +kernel
theorem dX10_reckons_39 : decode cX10_reckons 39 = .ok (.iconst 0, 1) := by decide +kernel
theorem dX10_reckons_40 : decode cX10_reckons 40 = .ok (.invokevirtual 185, 3) := by decide +kernel
theorem dX10_reckons_43 : decode cX10_reckons 43 = .ok (.aload_n 0, 1) := by decide +kernel
theorem dX10_reckons_44 : decode cX10_reckons 44 = .ok (.iload_n 1, 1) := by decide +kernel
theorem dX10_reckons_45 : decode cX10_reckons 45 = .ok (.iconst 1, 1) := by decide +kernel
theorem dX10_reckons_46 : decode cX10_reckons 46 = .ok (.invokevirtual 185, 3) := by decide +kernel
theorem dX10_reckons_49 : decode cX10_reckons 49 = .ok (.if_icmp .eq 12, 3) := by decide +kernel
theorem dX10_reckons_52 : decode cX10_reckons 52 = .ok (.aload_n 0, 1) := by decide +kernel
theorem dX10_reckons_53 : decode cX10_reckons 53 = .ok (.iload_n 3, 1) := by decide +kernel
theorem dX10_reckons_54 : decode cX10_reckons 54 = .ok (.iload 4, 2) := by decide +kernel
theorem dX10_reckons_56 : decode cX10_reckons 56 = .ok (.iconst 4, 1) := by decide +kernel
theorem dX10_reckons_57 : decode cX10_reckons 57 = .ok (.invokevirtual 228, 3) := by decide +kernel
theorem dX10_reckons_60 : decode cX10_reckons 60 = .ok (.ireturn, 1) := by decide +kernel
theorem dX10_reckons_61 : decode cX10_reckons 61 = .ok (.aload_n 0, 1) := by decide +kernel
theorem dX10_reckons_62 : decode cX10_reckons 62 = .ok (.iload_n 1, 1) := by decide +kernel
theorem dX10_reckons_63 : decode cX10_reckons 63 = .ok (.iload 5, 2) := by decide +kernel
theorem dX10_reckons_65 : decode cX10_reckons 65 = .ok (.iload 6, 2) := by decide +kernel
theorem dX10_reckons_67 : decode cX10_reckons 67 = .ok (.if_icmp .ne 7, 3) := by decide +kernel
theorem dX10_reckons_70 : decode cX10_reckons 70 = .ok (.iconst 1, 1) := by decide +kernel
theorem dX10_reckons_71 : decode cX10_reckons 71 = .ok (.goto 4, 3) := by decide +kernel
theorem dX10_reckons_74 : decode cX10_reckons 74 = .ok (.iconst 0, 1) := by decide +kernel
theorem dX10_reckons_75 : decode cX10_reckons 75 = .ok (.invokevirtual 191, 3) := by decide +kernel
theorem dX10_reckons_78 : decode cX10_reckons 78 = .ok (.ireturn, 1) := by decide +kernel
theorem dX10_reckons_79 : decode cX10_reckons 79 = .ok (.iconst 0, 1) := by decide +kernel
theorem dX10_reckons_80 : decode cX10_reckons 80 = .ok (.istore 7, 2) := by decide +kernel
theorem dX10_reckons_82 : decode cX10_reckons 82 = .ok (.iload 7, 2) := by decide +kernel
theorem dX10_reckons_84 : decode cX10_reckons 84 = .ok (.aload_n 0, 1) := by decide +kernel
theorem dX10_reckons_85 : decode cX10_reckons 85 = .ok (.getfield 16, 3) := by decide +kernel
theorem dX10_reckons_88 : decode cX10_reckons 88 = .ok (.iload_n 3, 1) := by decide +kernel
theorem dX10_reckons_89 : decode cX10_reckons 89 = .ok (.iaload, 1) := by decide +kernel
theorem dX10_reckons_90 : decode cX10_reckons 90 = .ok (.if_icmp .ge 29, 3) := by decide +kernel
theorem dX10_reckons_93 : decode cX10_reckons 93 = .ok (.aload_n 0, 1) := by decide +kernel
theorem dX10_reckons_94 : decode cX10_reckons 94 = .ok (.iload_n 1, 1) := by decide +kernel
theorem dX10_reckons_95 : decode cX10_reckons 95 = .ok (.iload 7, 2) := by decide +kernel
theorem dX10_reckons_97 : decode cX10_reckons 97 = .ok (.invokevirtual 185, 3) := by decide +kernel
theorem dX10_reckons_100 : decode cX10_reckons 100 = .ok (.iconst 1, 1) := by decide +kernel
theorem dX10_reckons_101 : decode cX10_reckons 101 = .ok (.if_icmp .eq 12, 3) := by decide +kernel
theorem dX10_reckons_104 : decode cX10_reckons 104 = .ok (.aload_n 0, 1) := by decide +kernel
theorem dX10_reckons_105 : decode cX10_reckons 105 = .ok (.iload_n 3, 1) := by decide +kernel
theorem dX10_reckons_106 : decode cX10_reckons 106 = .ok (.iload 4, 2) := by decide +kernel
theorem dX10_reckons_108 : decode cX10_reckons 108 = .ok (.iconst 4, 1) := by decide +kernel
theorem dX10_reckons_109 : decode cX10_reckons 109 = .ok (.invokevirtual 228, 3) := by decide +kernel
theorem dX10_reckons_112 : decode cX10_reckons 112 = .ok (.ireturn, 1) := by decide +kernel
theorem dX10_reckons_113 : decode cX10_reckons 113 = .ok (.iinc 7 1, 3) := by decide +kernel
theorem dX10_reckons_116 : decode cX10_reckons 116 = .ok (.goto (-34), 3) := by decide +kernel
theorem dX10_reckons_119 : decode cX10_reckons 119 = .ok (.iload_n 2, 1) := by decide +kernel
theorem dX10_reckons_120 : decode cX10_reckons 120 = .ok (.tableswitch 169 2 9 #[48, 59, 70, 81, 108, 135, 169, 153], 48) := by decide +kernel
theorem dX10_reckons_168 : decode cX10_reckons 168 = .ok (.aload_n 0, 1) := by decide +kernel
theorem dX10_reckons_169 : decode cX10_reckons 169 = .ok (.iload_n 1, 1) := by decide +kernel
theorem dX10_reckons_170 : decode cX10_reckons 170 = .ok (.iload 5, 2) := by decide +kernel
theorem dX10_reckons_172 : decode cX10_reckons 172 = .ok (.iload 6, 2) := by decide +kernel
theorem dX10_reckons_174 : decode cX10_reckons 174 = .ok (.iadd, 1) := by decide +kernel
theorem dX10_reckons_175 : decode cX10_reckons 175 = .ok (.invokevirtual 191, 3) := by decide +kernel
theorem dX10_reckons_178 : decode cX10_reckons 178 = .ok (.ireturn, 1) := by decide +kernel
theorem dX10_reckons_179 : decode cX10_reckons 179 = .ok (.aload_n 0, 1) := by decide +kernel
theorem dX10_reckons_180 : decode cX10_reckons 180 = .ok (.iload_n 1, 1) := by decide +kernel
theorem dX10_reckons_181 : decode cX10_reckons 181 = .ok (.iload 5, 2) := by decide +kernel
theorem dX10_reckons_183 : decode cX10_reckons 183 = .ok (.iload 6, 2) := by decide +kernel
theorem dX10_reckons_185 : decode cX10_reckons 185 = .ok (.isub, 1) := by decide +kernel
theorem dX10_reckons_186 : decode cX10_reckons 186 = .ok (.invokevirtual 191, 3) := by decide +kernel
theorem dX10_reckons_189 : decode cX10_reckons 189 = .ok (.ireturn, 1) := by decide +kernel
theorem dX10_reckons_190 : decode cX10_reckons 190 = .ok (.aload_n 0, 1) := by decide +kernel
theorem dX10_reckons_191 : decode cX10_reckons 191 = .ok (.iload_n 1, 1) := by decide +kernel
theorem dX10_reckons_192 : decode cX10_reckons 192 = .ok (.iload 5, 2) := by decide +kernel
theorem dX10_reckons_194 : decode cX10_reckons 194 = .ok (.iload 6, 2) := by decide +kernel
theorem dX10_reckons_196 : decode cX10_reckons 196 = .ok (.imul, 1) := by decide +kernel
theorem dX10_reckons_197 : decode cX10_reckons 197 = .ok (.invokevirtual 191, 3) := by decide +kernel
theorem dX10_reckons_200 : decode cX10_reckons 200 = .ok (.ireturn, 1) := by decide +kernel
theorem dX10_reckons_201 : decode cX10_reckons 201 = .ok (.iload 6, 2) := by decide +kernel
theorem dX10_reckons_203 : decode cX10_reckons 203 = .ok (.ifCond .ne 14, 3) := by decide +kernel
theorem dX10_reckons_206 : decode cX10_reckons 206 = .ok (.aload_n 0, 1) := by decide +kernel
theorem dX10_reckons_207 : decode cX10_reckons 207 = .ok (.iload_n 3, 1) := by decide +kernel
theorem dX10_reckons_208 : decode cX10_reckons 208 = .ok (.iload 4, 2) := by decide +kernel
theorem dX10_reckons_210 : decode cX10_reckons 210 = .ok (.iconst 1, 1) := by decide +kernel
theorem dX10_reckons_211 : decode cX10_reckons 211 = .ok (.invokevirtual 228, 3) := by decide +kernel
theorem dX10_reckons_214 : decode cX10_reckons 214 = .ok (.goto 13, 3) := by decide +kernel
theorem dX10_reckons_217 : decode cX10_reckons 217 = .ok (.aload_n 0, 1) := by decide +kernel
theorem dX10_reckons_218 : decode cX10_reckons 218 = .ok (.iload_n 1, 1) := by decide +kernel
theorem dX10_reckons_219 : decode cX10_reckons 219 = .ok (.iload 5, 2) := by decide +kernel
theorem dX10_reckons_221 : decode cX10_reckons 221 = .ok (.iload 6, 2) := by decide +kernel
theorem dX10_reckons_223 : decode cX10_reckons 223 = .ok (.idiv, 1) := by decide +kernel
theorem dX10_reckons_224 : decode cX10_reckons 224 = .ok (.invokevirtual 191, 3) := by decide +kernel
theorem dX10_reckons_227 : decode cX10_reckons 227 = .ok (.ireturn, 1) := by decide +kernel
theorem dX10_reckons_228 : decode cX10_reckons 228 = .ok (.iload 6, 2) := by decide +kernel
theorem dX10_reckons_230 : decode cX10_reckons 230 = .ok (.ifCond .ne 14, 3) := by decide +kernel
theorem dX10_reckons_233 : decode cX10_reckons 233 = .ok (.aload_n 0, 1) := by decide +kernel
theorem dX10_reckons_234 : decode cX10_reckons 234 = .ok (.iload_n 3, 1) := by decide +kernel
theorem dX10_reckons_235 : decode cX10_reckons 235 = .ok (.iload 4, 2) := by decide +kernel
theorem dX10_reckons_237 : decode cX10_reckons 237 = .ok (.iconst 1, 1) := by decide +kernel
theorem dX10_reckons_238 : decode cX10_reckons 238 = .ok (.invokevirtual 228, 3) := by decide +kernel
theorem dX10_reckons_241 : decode cX10_reckons 241 = .ok (.goto 13, 3) := by decide +kernel
theorem dX10_reckons_244 : decode cX10_reckons 244 = .ok (.aload_n 0, 1) := by decide +kernel
theorem dX10_reckons_245 : decode cX10_reckons 245 = .ok (.iload_n 1, 1) := by decide +kernel
theorem dX10_reckons_246 : decode cX10_reckons 246 = .ok (.iload 5, 2) := by decide +kernel
theorem dX10_reckons_248 : decode cX10_reckons 248 = .ok (.iload 6, 2) := by decide +kernel
theorem dX10_reckons_250 : decode cX10_reckons 250 = .ok (.irem, 1) := by decide +kernel
theorem dX10_reckons_251 : decode cX10_reckons 251 = .ok (.invokevirtual 191, 3) := by decide +kernel
theorem dX10_reckons_254 : decode cX10_reckons 254 = .ok (.ireturn, 1) := by decide +kernel
theorem dX10_reckons_255 : decode cX10_reckons 255 = .ok (.aload_n 0, 1) := by decide +kernel
theorem dX10_reckons_256 : decode cX10_reckons 256 = .ok (.iload_n 1, 1) := by decide +kernel
theorem dX10_reckons_257 : decode cX10_reckons 257 = .ok (.iload 5, 2) := by decide +kernel
theorem dX10_reckons_259 : decode cX10_reckons 259 = .ok (.iload 6, 2) := by decide +kernel
theorem dX10_reckons_261 : decode cX10_reckons 261 = .ok (.if_icmp .ge 7, 3) := by decide +kernel
theorem dX10_reckons_264 : decode cX10_reckons 264 = .ok (.iconst 1, 1) := by decide +kernel
theorem dX10_reckons_265 : decode cX10_reckons 265 = .ok (.goto 4, 3) := by decide +kernel
theorem dX10_reckons_268 : decode cX10_reckons 268 = .ok (.iconst 0, 1) := by decide +kernel
theorem dX10_reckons_269 : decode cX10_reckons 269 = .ok (.invokevirtual 191, 3) := by decide +kernel
theorem dX10_reckons_272 : decode cX10_reckons 272 = .ok (.ireturn, 1) := by decide +kernel
theorem dX10_reckons_273 : decode cX10_reckons 273 = .ok (.aload_n 0, 1) := by decide +kernel
theorem dX10_reckons_274 : decode cX10_reckons 274 = .ok (.iload_n 1, 1) := by decide +kernel
theorem dX10_reckons_275 : decode cX10_reckons 275 = .ok (.iload 5, 2) := by decide +kernel
theorem dX10_reckons_277 : decode cX10_reckons 277 = .ok (.ifCond .ne 7, 3) := by decide +kernel
theorem dX10_reckons_280 : decode cX10_reckons 280 = .ok (.iconst 1, 1) := by decide +kernel
theorem dX10_reckons_281 : decode cX10_reckons 281 = .ok (.goto 4, 3) := by decide +kernel
theorem dX10_reckons_284 : decode cX10_reckons 284 = .ok (.iconst 0, 1) := by decide +kernel
theorem dX10_reckons_285 : decode cX10_reckons 285 = .ok (.invokevirtual 191, 3) := by decide +kernel
theorem dX10_reckons_288 : decode cX10_reckons 288 = .ok (.ireturn, 1) := by decide +kernel
theorem dX10_reckons_289 : decode cX10_reckons 289 = .ok (.aload_n 0, 1) := by decide +kernel
theorem dX10_reckons_290 : decode cX10_reckons 290 = .ok (.iload_n 1, 1) := by decide +kernel
theorem dX10_reckons_291 : decode cX10_reckons 291 = .ok (.iload 5, 2) := by decide +kernel
theorem dX10_reckons_293 : decode cX10_reckons 293 = .ok (.invokevirtual 234, 3) := by decide +kernel
theorem dX10_reckons_296 : decode cX10_reckons 296 = .ok (.ireturn, 1) := by decide +kernel
theorem dX10_makes_0 : decode cX10_makes 0 = .ok (.iload_n 2, 1) := by decide +kernel
theorem dX10_makes_1 : decode cX10_makes 1 = .ok (.iconst 0, 1) := by decide +kernel
theorem dX10_makes_2 : decode cX10_makes 2 = .ok (.sipush 200, 3) := by decide +kernel
theorem dX10_makes_5 : decode cX10_makes 5 = .ok (.invokestatic 131, 3) := by decide +kernel
theorem dX10_makes_8 : decode cX10_makes 8 = .ok (.ifCond .ne 21, 3) := by decide +kernel
theorem dX10_makes_11 : decode cX10_makes 11 = .ok (.aload_n 0, 1) := by decide +kernel
theorem dX10_makes_12 : decode cX10_makes 12 = .ok (.aload_n 0, 1) := by decide +kernel
theorem dX10_makes_13 : decode cX10_makes 13 = .ok (.getfield 52, 3) := by decide +kernel
theorem dX10_makes_16 : decode cX10_makes 16 = .ok (.iload_n 1, 1) := by decide +kernel
theorem dX10_makes_17 : decode cX10_makes 17 = .ok (.iaload, 1) := by decide +kernel
theorem dX10_makes_18 : decode cX10_makes 18 = .ok (.aload_n 0, 1) := by decide +kernel
theorem dX10_makes_19 : decode cX10_makes 19 = .ok (.getfield 55, 3) := by decide +kernel
theorem dX10_makes_22 : decode cX10_makes 22 = .ok (.iload_n 1, 1) := by decide +kernel
theorem dX10_makes_23 : decode cX10_makes 23 = .ok (.iaload, 1) := by decide +kernel
theorem dX10_makes_24 : decode cX10_makes 24 = .ok (.iconst 3, 1) := by decide +kernel
theorem dX10_makes_25 : decode cX10_makes 25 = .ok (.invokevirtual 228, 3) := by decide +kernel
theorem dX10_makes_28 : decode cX10_makes 28 = .ok (.ireturn, 1) := by decide +kernel
theorem dX10_makes_29 : decode cX10_makes 29 = .ok (.aload_n 0, 1) := by decide +kernel
theorem dX10_makes_30 : decode cX10_makes 30 = .ok (.getfield 237, 3) := by decide +kernel
theorem dX10_makes_33 : decode cX10_makes 33 = .ok (.sipush 300, 3) := by decide +kernel
theorem dX10_makes_36 : decode cX10_makes 36 = .ok (.if_icmp .eq 15, 3) := by decide +kernel
theorem dX10_makes_39 : decode cX10_makes 39 = .ok (.aload_n 0, 1) := by decide +kernel
theorem dX10_makes_40 : decode cX10_makes 40 = .ok (.getfield 240, 3) := by decide +kernel
theorem dX10_makes_43 : decode cX10_makes 43 = .ok (.iload_n 2, 1) := by decide +kernel
theorem dX10_makes_44 : decode cX10_makes 44 = .ok (.iadd, 1) := by decide +kernel
theorem dX10_makes_45 : decode cX10_makes 45 = .ok (.sipush 2000, 3) := by decide +kernel
theorem dX10_makes_48 : decode cX10_makes 48 = .ok (.if_icmp .le 10, 3) := by decide +kernel
theorem dX10_makes_51 : decode cX10_makes 51 = .ok (.aload_n 0, 1) := by decide +kernel
theorem dX10_makes_52 : decode cX10_makes 52 = .ok (.iconst 2, 1) := by decide +kernel
theorem dX10_makes_53 : decode cX10_makes 53 = .ok (.iconst (-1), 1) := by decide +kernel
theorem dX10_makes_54 : decode cX10_makes 54 = .ok (.invokevirtual 165, 3) := by decide +kernel
theorem dX10_makes_57 : decode cX10_makes 57 = .ok (.ireturn, 1) := by decide +kernel
theorem dX10_makes_58 : decode cX10_makes 58 = .ok (.aload_n 0, 1) := by decide +kernel
theorem dX10_makes_59 : decode cX10_makes 59 = .ok (.getfield 85, 3) := by decide +kernel
theorem dX10_makes_62 : decode cX10_makes 62 = .ok (.aload_n 0, 1) := by decide +kernel
theorem dX10_makes_63 : decode cX10_makes 63 = .ok (.getfield 237, 3) := by decide +kernel
theorem dX10_makes_66 : decode cX10_makes 66 = .ok (.aload_n 0, 1) := by decide +kernel
theorem dX10_makes_67 : decode cX10_makes 67 = .ok (.getfield 240, 3) := by decide +kernel
theorem dX10_makes_70 : decode cX10_makes 70 = .ok (.iastore, 1) := by decide +kernel
theorem dX10_makes_71 : decode cX10_makes 71 = .ok (.aload_n 0, 1) := by decide +kernel
theorem dX10_makes_72 : decode cX10_makes 72 = .ok (.getfield 88, 3) := by decide +kernel
theorem dX10_makes_75 : decode cX10_makes 75 = .ok (.aload_n 0, 1) := by decide +kernel
theorem dX10_makes_76 : decode cX10_makes 76 = .ok (.getfield 237, 3) := by decide +kernel
theorem dX10_makes_79 : decode cX10_makes 79 = .ok (.iload_n 2, 1) := by decide +kernel
theorem dX10_makes_80 : decode cX10_makes 80 = .ok (.iastore, 1) := by decide +kernel
theorem dX10_makes_81 : decode cX10_makes 81 = .ok (.aload_n 0, 1) := by decide +kernel
theorem dX10_makes_82 : decode cX10_makes 82 = .ok (.getfield 91, 3) := by decide +kernel
theorem dX10_makes_85 : decode cX10_makes 85 = .ok (.aload_n 0, 1) := by decide +kernel
theorem dX10_makes_86 : decode cX10_makes 86 = .ok (.getfield 237, 3) := by decide +kernel
theorem dX10_makes_89 : decode cX10_makes 89 = .ok (.aload_n 0, 1) := by decide +kernel
theorem dX10_makes_90 : decode cX10_makes 90 = .ok (.getfield 52, 3) := by decide +kernel
theorem dX10_makes_93 : decode cX10_makes 93 = .ok (.iload_n 1, 1) := by decide +kernel
theorem dX10_makes_94 : decode cX10_makes 94 = .ok (.iaload, 1) := by decide +kernel
theorem dX10_makes_95 : decode cX10_makes 95 = .ok (.iastore, 1) := by decide +kernel
theorem dX10_makes_96 : decode cX10_makes 96 = .ok (.aload_n 0, 1) := by decide +kernel
theorem dX10_makes_97 : decode cX10_makes 97 = .ok (.getfield 94, 3) := by decide +kernel
theorem dX10_makes_100 : decode cX10_makes 100 = .ok (.aload_n 0, 1) := by decide +kernel
theorem dX10_makes_101 : decode cX10_makes 101 = .ok (.getfield 237, 3) := by decide +kernel
theorem dX10_makes_104 : decode cX10_makes 104 = .ok (.aload_n 0, 1) := by decide +kernel
theorem dX10_makes_105 : decode cX10_makes 105 = .ok (.getfield 55, 3) := by decide +kernel
theorem dX10_makes_108 : decode cX10_makes 108 = .ok (.iload_n 1, 1) := by decide +kernel
theorem dX10_makes_109 : decode cX10_makes 109 = .ok (.iaload, 1) := by decide +kernel
theorem dX10_makes_110 : decode cX10_makes 110 = .ok (.iastore, 1) := by decide +kernel
theorem dX10_makes_111 : decode cX10_makes 111 = .ok (.iconst 0, 1) := by decide +kernel
theorem dX10_makes_112 : decode cX10_makes 112 = .ok (.istore_n 3, 1) := by decide +kernel
theorem dX10_makes_113 : decode cX10_makes 113 = .ok (.iload_n 3, 1) := by decide +kernel
theorem dX10_makes_114 : decode cX10_makes 114 = .ok (.iload_n 2, 1) := by decide +kernel
theorem dX10_makes_115 : decode cX10_makes 115 = .ok (.if_icmp .ge 21, 3) := by decide +kernel
theorem dX10_makes_118 : decode cX10_makes 118 = .ok (.aload_n 0, 1) := by decide +kernel
theorem dX10_makes_119 : decode cX10_makes 119 = .ok (.getfield 97, 3) := by decide +kernel
theorem dX10_makes_122 : decode cX10_makes 122 = .ok (.aload_n 0, 1) := by decide +kernel
theorem dX10_makes_123 : decode cX10_makes 123 = .ok (.getfield 240, 3) := by decide +kernel
theorem dX10_makes_126 : decode cX10_makes 126 = .ok (.iload_n 3, 1) := by decide +kernel
theorem dX10_makes_127 : decode cX10_makes 127 = .ok (.iadd, 1) := by decide +kernel
theorem dX10_makes_128 : decode cX10_makes 128 = .ok (.iconst 0, 1) := by decide +kernel
theorem dX10_makes_129 : decode cX10_makes 129 = .ok (.iastore, 1) := by decide +kernel
theorem dX10_makes_130 : decode cX10_makes 130 = .ok (.iinc 3 1, 3) := by decide +kernel
theorem dX10_makes_133 : decode cX10_makes 133 = .ok (.goto (-20), 3) := by decide +kernel
theorem dX10_makes_136 : decode cX10_makes 136 = .ok (.aload_n 0, 1) := by decide +kernel
theorem dX10_makes_137 : decode cX10_makes 137 = .ok (.dup, 1) := by decide +kernel
theorem dX10_makes_138 : decode cX10_makes 138 = .ok (.getfield 240, 3) := by decide +kernel
theorem dX10_makes_141 : decode cX10_makes 141 = .ok (.iload_n 2, 1) := by decide +kernel
theorem dX10_makes_142 : decode cX10_makes 142 = .ok (.iadd, 1) := by decide +kernel
theorem dX10_makes_143 : decode cX10_makes 143 = .ok (.putfield 240, 3) := by decide +kernel
theorem dX10_makes_146 : decode cX10_makes 146 = .ok (.aload_n 0, 1) := by decide +kernel
theorem dX10_makes_147 : decode cX10_makes 147 = .ok (.dup, 1) := by decide +kernel
theorem dX10_makes_148 : decode cX10_makes 148 = .ok (.getfield 237, 3) := by decide +kernel
theorem dX10_makes_151 : decode cX10_makes 151 = .ok (.iconst 1, 1) := by decide +kernel
theorem dX10_makes_152 : decode cX10_makes 152 = .ok (.iadd, 1) := by decide +kernel
theorem dX10_makes_153 : decode cX10_makes 153 = .ok (.putfield 237, 3) := by decide +kernel
theorem dX10_makes_156 : decode cX10_makes 156 = .ok (.aload_n 0, 1) := by decide +kernel
theorem dX10_makes_157 : decode cX10_makes 157 = .ok (.aload_n 0, 1) := by decide +kernel
theorem dX10_makes_158 : decode cX10_makes 158 = .ok (.getfield 52, 3) := by decide +kernel
theorem dX10_makes_161 : decode cX10_makes 161 = .ok (.iload_n 1, 1) := by decide +kernel
theorem dX10_makes_162 : decode cX10_makes 162 = .ok (.iaload, 1) := by decide +kernel
theorem dX10_makes_163 : decode cX10_makes 163 = .ok (.iconst 0, 1) := by decide +kernel
theorem dX10_makes_164 : decode cX10_makes 164 = .ok (.aload_n 0, 1) := by decide +kernel
theorem dX10_makes_165 : decode cX10_makes 165 = .ok (.getfield 55, 3) := by decide +kernel
theorem dX10_makes_168 : decode cX10_makes 168 = .ok (.iload_n 1, 1) := by decide +kernel
theorem dX10_makes_169 : decode cX10_makes 169 = .ok (.iaload, 1) := by decide +kernel
theorem dX10_makes_170 : decode cX10_makes 170 = .ok (.iconst 2, 1) := by decide +kernel
theorem dX10_makes_171 : decode cX10_makes 171 = .ok (.aload_n 0, 1) := by decide +kernel
theorem dX10_makes_172 : decode cX10_makes 172 = .ok (.getfield 237, 3) := by decide +kernel
theorem dX10_makes_175 : decode cX10_makes 175 = .ok (.iconst 1, 1) := by decide +kernel
theorem dX10_makes_176 : decode cX10_makes 176 = .ok (.isub, 1) := by decide +kernel
theorem dX10_makes_177 : decode cX10_makes 177 = .ok (.iconst (-1), 1) := by decide +kernel
theorem dX10_makes_178 : decode cX10_makes 178 = .ok (.invokevirtual 182, 3) := by decide +kernel
theorem dX10_makes_181 : decode cX10_makes 181 = .ok (.ireturn, 1) := by decide +kernel
theorem dX10_cells_0 : decode cX10_cells 0 = .ok (.aload_n 0, 1) := by decide +kernel
theorem dX10_cells_1 : decode cX10_cells 1 = .ok (.getfield 52, 3) := by decide +kernel
theorem dX10_cells_4 : decode cX10_cells 4 = .ok (.iload_n 1, 1) := by decide +kernel
theorem dX10_cells_5 : decode cX10_cells 5 = .ok (.iaload, 1) := by decide +kernel
theorem dX10_cells_6 : decode cX10_cells 6 = .ok (.istore_n 3, 1) := by decide +kernel
theorem dX10_cells_7 : decode cX10_cells 7 = .ok (.aload_n 0, 1) := by decide +kernel
theorem dX10_cells_8 : decode cX10_cells 8 = .ok (.getfield 55, 3) := by decide +kernel
theorem dX10_cells_11 : decode cX10_cells 11 = .ok (.iload_n 1, 1) := by decide +kernel
theorem dX10_cells_12 : decode cX10_cells 12 = .ok (.iaload, 1) := by decide +kernel
theorem dX10_cells_13 : decode cX10_cells 13 = .ok (.istore 4, 2) := by decide +kernel
theorem dX10_cells_15 : decode cX10_cells 15 = .ok (.aload_n 0, 1) := by decide +kernel
theorem dX10_cells_16 : decode cX10_cells 16 = .ok (.iload_n 1, 1) := by decide +kernel
theorem dX10_cells_17 : decode cX10_cells 17 = .ok (.iconst 0, 1) := by decide +kernel
theorem dX10_cells_18 : decode cX10_cells 18 = .ok (.invokevirtual 185, 3) := by decide +kernel
theorem dX10_cells_21 : decode cX10_cells 21 = .ok (.iconst 2, 1) := by decide +kernel
theorem dX10_cells_22 : decode cX10_cells 22 = .ok (.if_icmp .ne 19, 3) := by decide +kernel
theorem dX10_cells_25 : decode cX10_cells 25 = .ok (.iload_n 2, 1) := by decide +kernel
theorem dX10_cells_26 : decode cX10_cells 26 = .ok (.bipush 20, 2) := by decide +kernel
theorem dX10_cells_28 : decode cX10_cells 28 = .ok (.if_icmp .eq 22, 3) := by decide +kernel
theorem dX10_cells_31 : decode cX10_cells 31 = .ok (.aload_n 0, 1) := by decide +kernel
theorem dX10_cells_32 : decode cX10_cells 32 = .ok (.iload_n 1, 1) := by decide +kernel
theorem dX10_cells_33 : decode cX10_cells 33 = .ok (.iconst 1, 1) := by decide +kernel
theorem dX10_cells_34 : decode cX10_cells 34 = .ok (.invokevirtual 185, 3) := by decide +kernel
theorem dX10_cells_37 : decode cX10_cells 37 = .ok (.iconst 1, 1) := by decide +kernel
theorem dX10_cells_38 : decode cX10_cells 38 = .ok (.if_icmp .eq 12, 3) := by decide +kernel
theorem dX10_cells_41 : decode cX10_cells 41 = .ok (.aload_n 0, 1) := by decide +kernel
theorem dX10_cells_42 : decode cX10_cells 42 = .ok (.iload_n 3, 1) := by decide +kernel
theorem dX10_cells_43 : decode cX10_cells 43 = .ok (.iload 4, 2) := by decide +kernel
theorem dX10_cells_45 : decode cX10_cells 45 = .ok (.iconst 4, 1) := by decide +kernel
theorem dX10_cells_46 : decode cX10_cells 46 = .ok (.invokevirtual 228, 3) := by decide +kernel
theorem dX10_cells_49 : decode cX10_cells 49 = .ok (.ireturn, 1) := by decide +kernel
theorem dX10_cells_50 : decode cX10_cells 50 = .ok (.aload_n 0, 1) := by decide +kernel
theorem dX10_cells_51 : decode cX10_cells 51 = .ok (.iload_n 1, 1) := by decide +kernel
theorem dX10_cells_52 : decode cX10_cells 52 = .ok (.iconst 0, 1) := by decide +kernel
theorem dX10_cells_53 : decode cX10_cells 53 = .ok (.invokevirtual 221, 3) := by decide +kernel
theorem dX10_cells_56 : decode cX10_cells 56 = .ok (.istore 5, 2) := by decide +kernel
theorem dX10_cells_58 : decode cX10_cells 58 = .ok (.iload_n 2, 1) := by decide +kernel
theorem dX10_cells_59 : decode cX10_cells 59 = .ok (.bipush 20, 2) := by decide +kernel
theorem dX10_cells_61 : decode cX10_cells 61 = .ok (.if_icmp .ne 16, 3) := by decide +kernel
theorem dX10_cells_64 : decode cX10_cells 64 = .ok (.aload_n 0, 1) := by decide +kernel
theorem dX10_cells_65 : decode cX10_cells 65 = .ok (.iload_n 1, 1) := by decide +kernel
theorem dX10_cells_66 : decode cX10_cells 66 = .ok (.aload_n 0, 1) := by decide +kernel
theorem dX10_cells_67 : decode cX10_cells 67 = .ok (.getfield 88, 3) := by decide +kernel
theorem dX10_cells_70 : decode cX10_cells 70 = .ok (.iload 5, 2) := by decide +kernel
theorem dX10_cells_72 : decode cX10_cells 72 = .ok (.iaload, 1) := by decide +kernel
theorem dX10_cells_73 : decode cX10_cells 73 = .ok (.invokevirtual 191, 3) := by decide +kernel
theorem dX10_cells_76 : decode cX10_cells 76 = .ok (.ireturn, 1) := by decide +kernel
theorem dX10_cells_77 : decode cX10_cells 77 = .ok (.aload_n 0, 1) := by decide +kernel
theorem dX10_cells_78 : decode cX10_cells 78 = .ok (.iload_n 1, 1) := by decide +kernel
theorem dX10_cells_79 : decode cX10_cells 79 = .ok (.iconst 1, 1) := by decide +kernel
theorem dX10_cells_80 : decode cX10_cells 80 = .ok (.invokevirtual 221, 3) := by decide +kernel
theorem dX10_cells_83 : decode cX10_cells 83 = .ok (.istore 6, 2) := by decide +kernel
theorem dX10_cells_85 : decode cX10_cells 85 = .ok (.iload 6, 2) := by decide +kernel
theorem dX10_cells_87 : decode cX10_cells 87 = .ok (.iconst 0, 1) := by decide +kernel
theorem dX10_cells_88 : decode cX10_cells 88 = .ok (.aload_n 0, 1) := by decide +kernel
theorem dX10_cells_89 : decode cX10_cells 89 = .ok (.getfield 88, 3) := by decide +kernel
theorem dX10_cells_92 : decode cX10_cells 92 = .ok (.iload 5, 2) := by decide +kernel
theorem dX10_cells_94 : decode cX10_cells 94 = .ok (.iaload, 1) := by decide +kernel
theorem dX10_cells_95 : decode cX10_cells 95 = .ok (.iconst 1, 1) := by decide +kernel
theorem dX10_cells_96 : decode cX10_cells 96 = .ok (.isub, 1) := by decide +kernel
theorem dX10_cells_97 : decode cX10_cells 97 = .ok (.invokestatic 131, 3) := by decide +kernel
theorem dX10_cells_100 : decode cX10_cells 100 = .ok (.ifCond .ne 12, 3) := by decide +kernel
theorem dX10_cells_103 : decode cX10_cells 103 = .ok (.aload_n 0, 1) := by decide +kernel
theorem dX10_cells_104 : decode cX10_cells 104 = .ok (.iload_n 3, 1) := by decide +kernel
theorem dX10_cells_105 : decode cX10_cells 105 = .ok (.iload 4, 2) := by decide +kernel
theorem dX10_cells_107 : decode cX10_cells 107 = .ok (.iconst 2, 1) := by decide +kernel
theorem dX10_cells_108 : decode cX10_cells 108 = .ok (.invokevirtual 228, 3) := by decide +kernel
theorem dX10_cells_111 : decode cX10_cells 111 = .ok (.ireturn, 1) := by decide +kernel
theorem dX10_cells_112 : decode cX10_cells 112 = .ok (.aload_n 0, 1) := by decide +kernel
theorem dX10_cells_113 : decode cX10_cells 113 = .ok (.getfield 85, 3) := by decide +kernel
theorem dX10_cells_116 : decode cX10_cells 116 = .ok (.iload 5, 2) := by decide +kernel
theorem dX10_cells_118 : decode cX10_cells 118 = .ok (.iaload, 1) := by decide +kernel
theorem dX10_cells_119 : decode cX10_cells 119 = .ok (.iload 6, 2) := by decide +kernel
theorem dX10_cells_121 : decode cX10_cells 121 = .ok (.iadd, 1) := by decide +kernel
theorem dX10_cells_122 : decode cX10_cells 122 = .ok (.istore 7, 2) := by decide +kernel
theorem dX10_cells_124 : decode cX10_cells 124 = .ok (.iload_n 2, 1) := by decide +kernel
theorem dX10_cells_125 : decode cX10_cells 125 = .ok (.bipush 18, 2) := by decide +kernel
theorem dX10_cells_127 : decode cX10_cells 127 = .ok (.if_icmp .ne 76, 3) := by decide +kernel
theorem dX10_cells_130 : decode cX10_cells 130 = .ok (.aload_n 0, 1) := by decide +kernel
theorem dX10_cells_131 : decode cX10_cells 131 = .ok (.getfield 97, 3) := by decide +kernel
theorem dX10_cells_134 : decode cX10_cells 134 = .ok (.iload 7, 2) := by decide +kernel
theorem dX10_cells_136 : decode cX10_cells 136 = .ok (.iaload, 1) := by decide +kernel
theorem dX10_cells_137 : decode cX10_cells 137 = .ok (.ifCond .le 33, 3) := by decide +kernel
theorem dX10_cells_140 : decode cX10_cells 140 = .ok (.aload_n 0, 1) := by decide +kernel
theorem dX10_cells_141 : decode cX10_cells 141 = .ok (.iload_n 3, 1) := by decide +kernel
theorem dX10_cells_142 : decode cX10_cells 142 = .ok (.iconst 0, 1) := by decide +kernel
theorem dX10_cells_143 : decode cX10_cells 143 = .ok (.iload 4, 2) := by decide +kernel
theorem dX10_cells_145 : decode cX10_cells 145 = .ok (.aload_n 0, 1) := by decide +kernel
theorem dX10_cells_146 : decode cX10_cells 146 = .ok (.getfield 97, 3) := by decide +kernel
theorem dX10_cells_149 : decode cX10_cells 149 = .ok (.iload 7, 2) := by decide +kernel
theorem dX10_cells_151 : decode cX10_cells 151 = .ok (.iaload, 1) := by decide +kernel
theorem dX10_cells_152 : decode cX10_cells 152 = .ok (.aload_n 0, 1) := by decide +kernel
theorem dX10_cells_153 : decode cX10_cells 153 = .ok (.getfield 100, 3) := by decide +kernel
theorem dX10_cells_156 : decode cX10_cells 156 = .ok (.iload 7, 2) := by decide +kernel
theorem dX10_cells_158 : decode cX10_cells 158 = .ok (.iaload, 1) := by decide +kernel
theorem dX10_cells_159 : decode cX10_cells 159 = .ok (.aload_n 0, 1) := by decide +kernel
theorem dX10_cells_160 : decode cX10_cells 160 = .ok (.getfield 103, 3) := by decide +kernel
theorem dX10_cells_163 : decode cX10_cells 163 = .ok (.iload 7, 2) := by decide +kernel
theorem dX10_cells_165 : decode cX10_cells 165 = .ok (.iaload, 1) := by decide +kernel
theorem dX10_cells_166 : decode cX10_cells 166 = .ok (.invokevirtual 182, 3) := by decide +kernel
theorem dX10_cells_169 : decode cX10_cells 169 = .ok (.ireturn, 1) := by decide +kernel
theorem dX10_cells_170 : decode cX10_cells 170 = .ok (.aload_n 0, 1) := by decide +kernel
theorem dX10_cells_171 : decode cX10_cells 171 = .ok (.getfield 106, 3) := by decide +kernel
theorem dX10_cells_174 : decode cX10_cells 174 = .ok (.aload_n 0, 1) := by decide +kernel
theorem dX10_cells_175 : decode cX10_cells 175 = .ok (.getfield 242, 3) := by decide +kernel
theorem dX10_cells_178 : decode cX10_cells 178 = .ok (.iload 7, 2) := by decide +kernel
theorem dX10_cells_180 : decode cX10_cells 180 = .ok (.iastore, 1) := by decide +kernel
theorem dX10_cells_181 : decode cX10_cells 181 = .ok (.aload_n 0, 1) := by decide +kernel
theorem dX10_cells_182 : decode cX10_cells 182 = .ok (.getfield 109, 3) := by decide +kernel
theorem dX10_cells_185 : decode cX10_cells 185 = .ok (.aload_n 0, 1) := by decide +kernel
theorem dX10_cells_186 : decode cX10_cells 186 = .ok (.getfield 242, 3) := by decide +kernel
theorem dX10_cells_189 : decode cX10_cells 189 = .ok (.iload_n 1, 1) := by decide +kernel
theorem dX10_cells_190 : decode cX10_cells 190 = .ok (.iastore, 1) := by decide +kernel
theorem dX10_cells_191 : decode cX10_cells 191 = .ok (.aload_n 0, 1) := by decide +kernel
theorem dX10_cells_192 : decode cX10_cells 192 = .ok (.dup, 1) := by decide +kernel
theorem dX10_cells_193 : decode cX10_cells 193 = .ok (.getfield 242, 3) := by decide +kernel
theorem dX10_cells_196 : decode cX10_cells 196 = .ok (.iconst 1, 1) := by decide +kernel
theorem dX10_cells_197 : decode cX10_cells 197 = .ok (.iadd, 1) := by decide +kernel
theorem dX10_cells_198 : decode cX10_cells 198 = .ok (.putfield 242, 3) := by decide +kernel
theorem dX10_cells_201 : decode cX10_cells 201 = .ok (.iconst 1, 1) := by decide +kernel
theorem dX10_cells_202 : decode cX10_cells 202 = .ok (.ireturn, 1) := by decide +kernel
theorem dX10_cells_203 : decode cX10_cells 203 = .ok (.aload_n 0, 1) := by decide +kernel
theorem dX10_cells_204 : decode cX10_cells 204 = .ok (.getfield 97, 3) := by decide +kernel
theorem dX10_cells_207 : decode cX10_cells 207 = .ok (.iload 7, 2) := by decide +kernel
theorem dX10_cells_209 : decode cX10_cells 209 = .ok (.iaload, 1) := by decide +kernel
theorem dX10_cells_210 : decode cX10_cells 210 = .ok (.ifCond .le 10, 3) := by decide +kernel
theorem dX10_cells_213 : decode cX10_cells 213 = .ok (.aload_n 0, 1) := by decide +kernel
theorem dX10_cells_214 : decode cX10_cells 214 = .ok (.iconst 1, 1) := by decide +kernel
theorem dX10_cells_215 : decode cX10_cells 215 = .ok (.iload_n 3, 1) := by decide +kernel
theorem dX10_cells_216 : decode cX10_cells 216 = .ok (.invokevirtual 165, 3) := by decide +kernel
theorem dX10_cells_219 : decode cX10_cells 219 = .ok (.ireturn, 1) := by decide +kernel
theorem dX10_cells_220 : decode cX10_cells 220 = .ok (.aload_n 0, 1) := by decide +kernel
theorem dX10_cells_221 : decode cX10_cells 221 = .ok (.getfield 97, 3) := by decide +kernel
theorem dX10_cells_224 : decode cX10_cells 224 = .ok (.iload 7, 2) := by decide +kernel
theorem dX10_cells_226 : decode cX10_cells 226 = .ok (.aload_n 0, 1) := by decide +kernel
theorem dX10_cells_227 : decode cX10_cells 227 = .ok (.iload_n 1, 1) := by decide +kernel
theorem dX10_cells_228 : decode cX10_cells 228 = .ok (.iconst 2, 1) := by decide +kernel
theorem dX10_cells_229 : decode cX10_cells 229 = .ok (.invokevirtual 185, 3) := by decide +kernel
theorem dX10_cells_232 : decode cX10_cells 232 = .ok (.iastore, 1) := by decide +kernel
theorem dX10_cells_233 : decode cX10_cells 233 = .ok (.aload_n 0, 1) := by decide +kernel
theorem dX10_cells_234 : decode cX10_cells 234 = .ok (.getfield 100, 3) := by decide +kernel
theorem dX10_cells_237 : decode cX10_cells 237 = .ok (.iload 7, 2) := by decide +kernel
theorem dX10_cells_239 : decode cX10_cells 239 = .ok (.aload_n 0, 1) := by decide +kernel
theorem dX10_cells_240 : decode cX10_cells 240 = .ok (.iload_n 1, 1) := by decide +kernel
theorem dX10_cells_241 : decode cX10_cells 241 = .ok (.iconst 2, 1) := by decide +kernel
theorem dX10_cells_242 : decode cX10_cells 242 = .ok (.invokevirtual 221, 3) := by decide +kernel
theorem dX10_cells_245 : decode cX10_cells 245 = .ok (.iastore, 1) := by decide +kernel
theorem dX10_cells_246 : decode cX10_cells 246 = .ok (.aload_n 0, 1) := by decide +kernel
theorem dX10_cells_247 : decode cX10_cells 247 = .ok (.getfield 103, 3) := by decide +kernel
theorem dX10_cells_250 : decode cX10_cells 250 = .ok (.iload 7, 2) := by decide +kernel
theorem dX10_cells_252 : decode cX10_cells 252 = .ok (.aload_n 0, 1) := by decide +kernel
theorem dX10_cells_253 : decode cX10_cells 253 = .ok (.getfield 73, 3) := by decide +kernel
theorem dX10_cells_256 : decode cX10_cells 256 = .ok (.iconst 3, 1) := by decide +kernel
theorem dX10_cells_257 : decode cX10_cells 257 = .ok (.iload_n 1, 1) := by decide +kernel
theorem dX10_cells_258 : decode cX10_cells 258 = .ok (.imul, 1) := by decide +kernel
theorem dX10_cells_259 : decode cX10_cells 259 = .ok (.iconst 2, 1) := by decide +kernel
theorem dX10_cells_260 : decode cX10_cells 260 = .ok (.iadd, 1) := by decide +kernel
theorem dX10_cells_261 : decode cX10_cells 261 = .ok (.iaload, 1) := by decide +kernel
theorem dX10_cells_262 : decode cX10_cells 262 = .ok (.iastore, 1) := by decide +kernel
theorem dX10_cells_263 : decode cX10_cells 263 = .ok (.iconst 0, 1) := by decide +kernel
theorem dX10_cells_264 : decode cX10_cells 264 = .ok (.istore 8, 2) := by decide +kernel
theorem dX10_cells_266 : decode cX10_cells 266 = .ok (.iload 8, 2) := by decide +kernel
theorem dX10_cells_268 : decode cX10_cells 268 = .ok (.aload_n 0, 1) := by decide +kernel
theorem dX10_cells_269 : decode cX10_cells 269 = .ok (.getfield 242, 3) := by decide +kernel
theorem dX10_cells_272 : decode cX10_cells 272 = .ok (.if_icmp .ge 86, 3) := by decide +kernel
theorem dX10_cells_275 : decode cX10_cells 275 = .ok (.aload_n 0, 1) := by decide +kernel
theorem dX10_cells_276 : decode cX10_cells 276 = .ok (.getfield 106, 3) := by decide +kernel
theorem dX10_cells_279 : decode cX10_cells 279 = .ok (.iload 8, 2) := by decide +kernel
theorem dX10_cells_281 : decode cX10_cells 281 = .ok (.iaload, 1) := by decide +kernel
theorem dX10_cells_282 : decode cX10_cells 282 = .ok (.iload 7, 2) := by decide +kernel
theorem dX10_cells_284 : decode cX10_cells 284 = .ok (.if_icmp .eq 6, 3) := by decide +kernel
theorem dX10_cells_287 : decode cX10_cells 287 = .ok (.goto 65, 3) := by decide +kernel
theorem dX10_cells_290 : decode cX10_cells 290 = .ok (.aload_n 0, 1) := by decide +kernel
theorem dX10_cells_291 : decode cX10_cells 291 = .ok (.getfield 106, 3) := by decide +kernel
theorem dX10_cells_294 : decode cX10_cells 294 = .ok (.iload 8, 2) := by decide +kernel
theorem dX10_cells_296 : decode cX10_cells 296 = .ok (.iconst (-1), 1) := by decide +kernel
theorem dX10_cells_297 : decode cX10_cells 297 = .ok (.iastore, 1) := by decide +kernel
theorem dX10_cells_298 : decode cX10_cells 298 = .ok (.aload_n 0, 1) := by decide +kernel
theorem dX10_cells_299 : decode cX10_cells 299 = .ok (.getfield 109, 3) := by decide +kernel
theorem dX10_cells_302 : decode cX10_cells 302 = .ok (.iload 8, 2) := by decide +kernel
theorem dX10_cells_304 : decode cX10_cells 304 = .ok (.iaload, 1) := by decide +kernel
theorem dX10_cells_305 : decode cX10_cells 305 = .ok (.istore 9, 2) := by decide +kernel
theorem dX10_cells_307 : decode cX10_cells 307 = .ok (.aload_n 0, 1) := by decide +kernel
theorem dX10_cells_308 : decode cX10_cells 308 = .ok (.aload_n 0, 1) := by decide +kernel
theorem dX10_cells_309 : decode cX10_cells 309 = .ok (.getfield 52, 3) := by decide +kernel
theorem dX10_cells_312 : decode cX10_cells 312 = .ok (.iload 9, 2) := by decide +kernel
theorem dX10_cells_314 : decode cX10_cells 314 = .ok (.iaload, 1) := by decide +kernel
theorem dX10_cells_315 : decode cX10_cells 315 = .ok (.iconst 0, 1) := by decide +kernel
theorem dX10_cells_316 : decode cX10_cells 316 = .ok (.aload_n 0, 1) := by decide +kernel
theorem dX10_cells_317 : decode cX10_cells 317 = .ok (.getfield 55, 3) := by decide +kernel
theorem dX10_cells_320 : decode cX10_cells 320 = .ok (.iload 9, 2) := by decide +kernel
theorem dX10_cells_322 : decode cX10_cells 322 = .ok (.iaload, 1) := by decide +kernel
theorem dX10_cells_323 : decode cX10_cells 323 = .ok (.aload_n 0, 1) := by decide +kernel
theorem dX10_cells_324 : decode cX10_cells 324 = .ok (.getfield 97, 3) := by decide +kernel
theorem dX10_cells_327 : decode cX10_cells 327 = .ok (.iload 7, 2) := by decide +kernel
theorem dX10_cells_329 : decode cX10_cells 329 = .ok (.iaload, 1) := by decide +kernel
theorem dX10_cells_330 : decode cX10_cells 330 = .ok (.aload_n 0, 1) := by decide +kernel
theorem dX10_cells_331 : decode cX10_cells 331 = .ok (.getfield 100, 3) := by decide +kernel
theorem dX10_cells_334 : decode cX10_cells 334 = .ok (.iload 7, 2) := by decide +kernel
theorem dX10_cells_336 : decode cX10_cells 336 = .ok (.iaload, 1) := by decide +kernel
theorem dX10_cells_337 : decode cX10_cells 337 = .ok (.aload_n 0, 1) := by decide +kernel
theorem dX10_cells_338 : decode cX10_cells 338 = .ok (.getfield 103, 3) := by decide +kernel
theorem dX10_cells_341 : decode cX10_cells 341 = .ok (.iload 7, 2) := by decide +kernel
theorem dX10_cells_343 : decode cX10_cells 343 = .ok (.iaload, 1) := by decide +kernel
theorem dX10_cells_344 : decode cX10_cells 344 = .ok (.invokevirtual 182, 3) := by decide +kernel
theorem dX10_cells_347 : decode cX10_cells 347 = .ok (.ifCond .ne 5, 3) := by decide +kernel
theorem dX10_cells_350 : decode cX10_cells 350 = .ok (.iconst 0, 1) := by decide +kernel
theorem dX10_cells_351 : decode cX10_cells 351 = .ok (.ireturn, 1) := by decide +kernel
theorem dX10_cells_352 : decode cX10_cells 352 = .ok (.iinc 8 1, 3) := by decide +kernel
theorem dX10_cells_355 : decode cX10_cells 355 = .ok (.goto (-89), 3) := by decide +kernel
theorem dX10_cells_358 : decode cX10_cells 358 = .ok (.aload_n 0, 1) := by decide +kernel
theorem dX10_cells_359 : decode cX10_cells 359 = .ok (.iload_n 3, 1) := by decide +kernel
theorem dX10_cells_360 : decode cX10_cells 360 = .ok (.iconst 0, 1) := by decide +kernel
theorem dX10_cells_361 : decode cX10_cells 361 = .ok (.iload 4, 2) := by decide +kernel
theorem dX10_cells_363 : decode cX10_cells 363 = .ok (.aload_n 0, 1) := by decide +kernel
theorem dX10_cells_364 : decode cX10_cells 364 = .ok (.getfield 97, 3) := by decide +kernel
theorem dX10_cells_367 : decode cX10_cells 367 = .ok (.iload 7, 2) := by decide +kernel
theorem dX10_cells_369 : decode cX10_cells 369 = .ok (.iaload, 1) := by decide +kernel
theorem dX10_cells_370 : decode cX10_cells 370 = .ok (.aload_n 0, 1) := by decide +kernel
theorem dX10_cells_371 : decode cX10_cells 371 = .ok (.getfield 100, 3) := by decide +kernel
theorem dX10_cells_374 : decode cX10_cells 374 = .ok (.iload 7, 2) := by decide +kernel
theorem dX10_cells_376 : decode cX10_cells 376 = .ok (.iaload, 1) := by decide +kernel
theorem dX10_cells_377 : decode cX10_cells 377 = .ok (.aload_n 0, 1) := by decide +kernel
theorem dX10_cells_378 : decode cX10_cells 378 = .ok (.getfield 103, 3) := by decide +kernel
theorem dX10_cells_381 : decode cX10_cells 381 = .ok (.iload 7, 2) := by decide +kernel
theorem dX10_cells_383 : decode cX10_cells 383 = .ok (.iaload, 1) := by decide +kernel
theorem dX10_cells_384 : decode cX10_cells 384 = .ok (.invokevirtual 182, 3) := by decide +kernel
theorem dX10_cells_387 : decode cX10_cells 387 = .ok (.ireturn, 1) := by decide +kernel
theorem dX10_begins_0 : decode cX10_begins 0 = .ok (.aload_n 0, 1) := by decide +kernel
theorem dX10_begins_1 : decode cX10_begins 1 = .ok (.iconst 1, 1) := by decide +kernel
theorem dX10_begins_2 : decode cX10_begins 2 = .ok (.putfield 149, 3) := by decide +kernel
theorem dX10_begins_5 : decode cX10_begins 5 = .ok (.aload_n 0, 1) := by decide +kernel
theorem dX10_begins_6 : decode cX10_begins 6 = .ok (.iconst 0, 1) := by decide +kernel
theorem dX10_begins_7 : decode cX10_begins 7 = .ok (.putfield 159, 3) := by decide +kernel
theorem dX10_begins_10 : decode cX10_begins 10 = .ok (.aload_n 0, 1) := by decide +kernel
theorem dX10_begins_11 : decode cX10_begins 11 = .ok (.iconst 0, 1) := by decide +kernel
theorem dX10_begins_12 : decode cX10_begins 12 = .ok (.putfield 153, 3) := by decide +kernel
theorem dX10_begins_15 : decode cX10_begins 15 = .ok (.aload_n 0, 1) := by decide +kernel
theorem dX10_begins_16 : decode cX10_begins 16 = .ok (.iconst 0, 1) := by decide +kernel
theorem dX10_begins_17 : decode cX10_begins 17 = .ok (.putfield 245, 3) := by decide +kernel
theorem dX10_begins_20 : decode cX10_begins 20 = .ok (.aload_n 0, 1) := by decide +kernel
theorem dX10_begins_21 : decode cX10_begins 21 = .ok (.iconst 0, 1) := by decide +kernel
theorem dX10_begins_22 : decode cX10_begins 22 = .ok (.putfield 248, 3) := by decide +kernel
theorem dX10_begins_25 : decode cX10_begins 25 = .ok (.aload_n 0, 1) := by decide +kernel
theorem dX10_begins_26 : decode cX10_begins 26 = .ok (.iconst 0, 1) := by decide +kernel
theorem dX10_begins_27 : decode cX10_begins 27 = .ok (.putfield 251, 3) := by decide +kernel
theorem dX10_begins_30 : decode cX10_begins 30 = .ok (.aload_n 0, 1) := by decide +kernel
theorem dX10_begins_31 : decode cX10_begins 31 = .ok (.iconst 0, 1) := by decide +kernel
theorem dX10_begins_32 : decode cX10_begins 32 = .ok (.putfield 218, 3) := by decide +kernel
theorem dX10_begins_35 : decode cX10_begins 35 = .ok (.aload_n 0, 1) := by decide +kernel
theorem dX10_begins_36 : decode cX10_begins 36 = .ok (.iconst 0, 1) := by decide +kernel
theorem dX10_begins_37 : decode cX10_begins 37 = .ok (.putfield 231, 3) := by decide +kernel
theorem dX10_begins_40 : decode cX10_begins 40 = .ok (.aload_n 0, 1) := by decide +kernel
theorem dX10_begins_41 : decode cX10_begins 41 = .ok (.iconst (-1), 1) := by decide +kernel
theorem dX10_begins_42 : decode cX10_begins 42 = .ok (.putfield 156, 3) := by decide +kernel
theorem dX10_begins_45 : decode cX10_begins 45 = .ok (.aload_n 0, 1) := by decide +kernel
theorem dX10_begins_46 : decode cX10_begins 46 = .ok (.iconst 0, 1) := by decide +kernel
theorem dX10_begins_47 : decode cX10_begins 47 = .ok (.putfield 162, 3) := by decide +kernel
theorem dX10_begins_50 : decode cX10_begins 50 = .ok (.aload_n 0, 1) := by decide +kernel
theorem dX10_begins_51 : decode cX10_begins 51 = .ok (.iconst 0, 1) := by decide +kernel
theorem dX10_begins_52 : decode cX10_begins 52 = .ok (.putfield 169, 3) := by decide +kernel
theorem dX10_begins_55 : decode cX10_begins 55 = .ok (.aload_n 0, 1) := by decide +kernel
theorem dX10_begins_56 : decode cX10_begins 56 = .ok (.iconst 0, 1) := by decide +kernel
theorem dX10_begins_57 : decode cX10_begins 57 = .ok (.putfield 175, 3) := by decide +kernel
theorem dX10_begins_60 : decode cX10_begins 60 = .ok (.aload_n 0, 1) := by decide +kernel
theorem dX10_begins_61 : decode cX10_begins 61 = .ok (.iconst 0, 1) := by decide +kernel
theorem dX10_begins_62 : decode cX10_begins 62 = .ok (.putfield 237, 3) := by decide +kernel
theorem dX10_begins_65 : decode cX10_begins 65 = .ok (.aload_n 0, 1) := by decide +kernel
theorem dX10_begins_66 : decode cX10_begins 66 = .ok (.iconst 0, 1) := by decide +kernel
theorem dX10_begins_67 : decode cX10_begins 67 = .ok (.putfield 240, 3) := by decide +kernel
theorem dX10_begins_70 : decode cX10_begins 70 = .ok (.aload_n 0, 1) := by decide +kernel
theorem dX10_begins_71 : decode cX10_begins 71 = .ok (.iconst 0, 1) := by decide +kernel
theorem dX10_begins_72 : decode cX10_begins 72 = .ok (.putfield 242, 3) := by decide +kernel
theorem dX10_begins_75 : decode cX10_begins 75 = .ok (.iconst 0, 1) := by decide +kernel
theorem dX10_begins_76 : decode cX10_begins 76 = .ok (.istore_n 1, 1) := by decide +kernel
theorem dX10_begins_77 : decode cX10_begins 77 = .ok (.iload_n 1, 1) := by decide +kernel
theorem dX10_begins_78 : decode cX10_begins 78 = .ok (.bipush 80, 2) := by decide +kernel
theorem dX10_begins_80 : decode cX10_begins 80 = .ok (.if_icmp .ge 23, 3) := by decide +kernel
theorem dX10_begins_83 : decode cX10_begins 83 = .ok (.aload_n 0, 1) := by decide +kernel
theorem dX10_begins_84 : decode cX10_begins 84 = .ok (.getfield 76, 3) := by decide +kernel
theorem dX10_begins_87 : decode cX10_begins 87 = .ok (.iload_n 1, 1) := by decide +kernel
theorem dX10_begins_88 : decode cX10_begins 88 = .ok (.iconst (-1), 1) := by decide +kernel
theorem dX10_begins_89 : decode cX10_begins 89 = .ok (.iastore, 1) := by decide +kernel
theorem dX10_begins_90 : decode cX10_begins 90 = .ok (.aload_n 0, 1) := by decide +kernel
theorem dX10_begins_91 : decode cX10_begins 91 = .ok (.getfield 79, 3) := by decide +kernel
theorem dX10_begins_94 : decode cX10_begins 94 = .ok (.iload_n 1, 1) := by decide +kernel
theorem dX10_begins_95 : decode cX10_begins 95 = .ok (.iconst 0, 1) := by decide +kernel
theorem dX10_begins_96 : decode cX10_begins 96 = .ok (.iastore, 1) := by decide +kernel
theorem dX10_begins_97 : decode cX10_begins 97 = .ok (.iinc 1 1, 3) := by decide +kernel
theorem dX10_begins_100 : decode cX10_begins 100 = .ok (.goto (-23), 3) := by decide +kernel
theorem dX10_begins_103 : decode cX10_begins 103 = .ok (.iconst 0, 1) := by decide +kernel
theorem dX10_begins_104 : decode cX10_begins 104 = .ok (.istore_n 1, 1) := by decide +kernel
theorem dX10_begins_105 : decode cX10_begins 105 = .ok (.iload_n 1, 1) := by decide +kernel
theorem dX10_begins_106 : decode cX10_begins 106 = .ok (.bipush 10, 2) := by decide +kernel
theorem dX10_begins_108 : decode cX10_begins 108 = .ok (.if_icmp .ge 16, 3) := by decide +kernel
theorem dX10_begins_111 : decode cX10_begins 111 = .ok (.aload_n 0, 1) := by decide +kernel
theorem dX10_begins_112 : decode cX10_begins 112 = .ok (.getfield 112, 3) := by decide +kernel
theorem dX10_begins_115 : decode cX10_begins 115 = .ok (.iload_n 1, 1) := by decide +kernel
theorem dX10_begins_116 : decode cX10_begins 116 = .ok (.iconst 0, 1) := by decide +kernel
theorem dX10_begins_117 : decode cX10_begins 117 = .ok (.iastore, 1) := by decide +kernel
theorem dX10_begins_118 : decode cX10_begins 118 = .ok (.iinc 1 1, 3) := by decide +kernel
theorem dX10_begins_121 : decode cX10_begins 121 = .ok (.goto (-16), 3) := by decide +kernel
theorem dX10_begins_124 : decode cX10_begins 124 = .ok (.aload_n 0, 1) := by decide +kernel
theorem dX10_begins_125 : decode cX10_begins 125 = .ok (.iconst 0, 1) := by decide +kernel
theorem dX10_begins_126 : decode cX10_begins 126 = .ok (.iconst 0, 1) := by decide +kernel
theorem dX10_begins_127 : decode cX10_begins 127 = .ok (.iconst 0, 1) := by decide +kernel
theorem dX10_begins_128 : decode cX10_begins 128 = .ok (.iconst 0, 1) := by decide +kernel
theorem dX10_begins_129 : decode cX10_begins 129 = .ok (.invokevirtual 224, 3) := by decide +kernel
theorem dX10_begins_132 : decode cX10_begins 132 = .ok (.istore_n 1, 1) := by decide +kernel
theorem dX10_begins_133 : decode cX10_begins 133 = .ok (.iconst 0, 1) := by decide +kernel
theorem dX10_begins_134 : decode cX10_begins 134 = .ok (.istore_n 2, 1) := by decide +kernel
theorem dX10_begins_135 : decode cX10_begins 135 = .ok (.iload_n 2, 1) := by decide +kernel
theorem dX10_begins_136 : decode cX10_begins 136 = .ok (.aload_n 0, 1) := by decide +kernel
theorem dX10_begins_137 : decode cX10_begins 137 = .ok (.getfield 146, 3) := by decide +kernel
theorem dX10_begins_140 : decode cX10_begins 140 = .ok (.if_icmp .ge 42, 3) := by decide +kernel
theorem dX10_begins_143 : decode cX10_begins 143 = .ok (.aload_n 0, 1) := by decide +kernel
theorem dX10_begins_144 : decode cX10_begins 144 = .ok (.getfield 159, 3) := by decide +kernel
theorem dX10_begins_147 : decode cX10_begins 147 = .ok (.ifCond .ne 35, 3) := by decide +kernel
theorem dX10_begins_150 : decode cX10_begins 150 = .ok (.aload_n 0, 1) := by decide +kernel
theorem dX10_begins_151 : decode cX10_begins 151 = .ok (.aload_n 0, 1) := by decide +kernel
theorem dX10_begins_152 : decode cX10_begins 152 = .ok (.getfield 31, 3) := by decide +kernel
theorem dX10_begins_155 : decode cX10_begins 155 = .ok (.iload_n 2, 1) := by decide +kernel
theorem dX10_begins_156 : decode cX10_begins 156 = .ok (.iaload, 1) := by decide +kernel
theorem dX10_begins_157 : decode cX10_begins 157 = .ok (.aload_n 0, 1) := by decide +kernel
theorem dX10_begins_158 : decode cX10_begins 158 = .ok (.getfield 34, 3) := by decide +kernel
theorem dX10_begins_161 : decode cX10_begins 161 = .ok (.iload_n 2, 1) := by decide +kernel
theorem dX10_begins_162 : decode cX10_begins 162 = .ok (.iaload, 1) := by decide +kernel
theorem dX10_begins_163 : decode cX10_begins 163 = .ok (.iload_n 1, 1) := by decide +kernel
theorem dX10_begins_164 : decode cX10_begins 164 = .ok (.iconst 1, 1) := by decide +kernel
theorem dX10_begins_165 : decode cX10_begins 165 = .ok (.aload_n 0, 1) := by decide +kernel
theorem dX10_begins_166 : decode cX10_begins 166 = .ok (.getfield 37, 3) := by decide +kernel
theorem dX10_begins_169 : decode cX10_begins 169 = .ok (.iload_n 2, 1) := by decide +kernel
theorem dX10_begins_170 : decode cX10_begins 170 = .ok (.iaload, 1) := by decide +kernel
theorem dX10_begins_171 : decode cX10_begins 171 = .ok (.iconst (-1), 1) := by decide +kernel
theorem dX10_begins_172 : decode cX10_begins 172 = .ok (.invokevirtual 178, 3) := by decide +kernel
theorem dX10_begins_175 : decode cX10_begins 175 = .ok (.pop, 1) := by decide +kernel
theorem dX10_begins_176 : decode cX10_begins 176 = .ok (.iinc 2 1, 3) := by decide +kernel
theorem dX10_begins_179 : decode cX10_begins 179 = .ok (.goto (-44), 3) := by decide +kernel
theorem dX10_begins_182 : decode cX10_begins 182 = .ok (.return_, 1) := by decide +kernel
theorem dX10_stepped_0 : decode cX10_stepped 0 = .ok (.aload_n 0, 1) := by decide +kernel
theorem dX10_stepped_1 : decode cX10_stepped 1 = .ok (.getfield 82, 3) := by decide +kernel
theorem dX10_stepped_4 : decode cX10_stepped 4 = .ok (.iload_n 1, 1) := by decide +kernel
theorem dX10_stepped_5 : decode cX10_stepped 5 = .ok (.iaload, 1) := by decide +kernel
theorem dX10_stepped_6 : decode cX10_stepped 6 = .ok (.istore_n 2, 1) := by decide +kernel
theorem dX10_stepped_7 : decode cX10_stepped 7 = .ok (.iload_n 1, 1) := by decide +kernel
theorem dX10_stepped_8 : decode cX10_stepped 8 = .ok (.iconst 1, 1) := by decide +kernel
theorem dX10_stepped_9 : decode cX10_stepped 9 = .ok (.iadd, 1) := by decide +kernel
theorem dX10_stepped_10 : decode cX10_stepped 10 = .ok (.istore_n 3, 1) := by decide +kernel
theorem dX10_stepped_11 : decode cX10_stepped 11 = .ok (.iload_n 3, 1) := by decide +kernel
theorem dX10_stepped_12 : decode cX10_stepped 12 = .ok (.aload_n 0, 1) := by decide +kernel
theorem dX10_stepped_13 : decode cX10_stepped 13 = .ok (.getfield 175, 3) := by decide +kernel
theorem dX10_stepped_16 : decode cX10_stepped 16 = .ok (.if_icmp .ge 23, 3) := by decide +kernel
theorem dX10_stepped_19 : decode cX10_stepped 19 = .ok (.aload_n 0, 1) := by decide +kernel
theorem dX10_stepped_20 : decode cX10_stepped 20 = .ok (.getfield 82, 3) := by decide +kernel
theorem dX10_stepped_23 : decode cX10_stepped 23 = .ok (.iload_n 3, 1) := by decide +kernel
theorem dX10_stepped_24 : decode cX10_stepped 24 = .ok (.iconst 1, 1) := by decide +kernel
theorem dX10_stepped_25 : decode cX10_stepped 25 = .ok (.isub, 1) := by decide +kernel
theorem dX10_stepped_26 : decode cX10_stepped 26 = .ok (.aload_n 0, 1) := by decide +kernel
theorem dX10_stepped_27 : decode cX10_stepped 27 = .ok (.getfield 82, 3) := by decide +kernel
theorem dX10_stepped_30 : decode cX10_stepped 30 = .ok (.iload_n 3, 1) := by decide +kernel
theorem dX10_stepped_31 : decode cX10_stepped 31 = .ok (.iaload, 1) := by decide +kernel
theorem dX10_stepped_32 : decode cX10_stepped 32 = .ok (.iastore, 1) := by decide +kernel
theorem dX10_stepped_33 : decode cX10_stepped 33 = .ok (.iinc 3 1, 3) := by decide +kernel
theorem dX10_stepped_36 : decode cX10_stepped 36 = .ok (.goto (-25), 3) := by decide +kernel
theorem dX10_stepped_39 : decode cX10_stepped 39 = .ok (.aload_n 0, 1) := by decide +kernel
theorem dX10_stepped_40 : decode cX10_stepped 40 = .ok (.dup, 1) := by decide +kernel
theorem dX10_stepped_41 : decode cX10_stepped 41 = .ok (.getfield 175, 3) := by decide +kernel
theorem dX10_stepped_44 : decode cX10_stepped 44 = .ok (.iconst 1, 1) := by decide +kernel
theorem dX10_stepped_45 : decode cX10_stepped 45 = .ok (.isub, 1) := by decide +kernel
theorem dX10_stepped_46 : decode cX10_stepped 46 = .ok (.putfield 175, 3) := by decide +kernel
theorem dX10_stepped_49 : decode cX10_stepped 49 = .ok (.aload_n 0, 1) := by decide +kernel
theorem dX10_stepped_50 : decode cX10_stepped 50 = .ok (.getfield 61, 3) := by decide +kernel
theorem dX10_stepped_53 : decode cX10_stepped 53 = .ok (.iload_n 2, 1) := by decide +kernel
theorem dX10_stepped_54 : decode cX10_stepped 54 = .ok (.iconst 2, 1) := by decide +kernel
theorem dX10_stepped_55 : decode cX10_stepped 55 = .ok (.iastore, 1) := by decide +kernel
theorem dX10_stepped_56 : decode cX10_stepped 56 = .ok (.aload_n 0, 1) := by decide +kernel
theorem dX10_stepped_57 : decode cX10_stepped 57 = .ok (.dup, 1) := by decide +kernel
theorem dX10_stepped_58 : decode cX10_stepped 58 = .ok (.getfield 245, 3) := by decide +kernel
theorem dX10_stepped_61 : decode cX10_stepped 61 = .ok (.iconst 1, 1) := by decide +kernel
theorem dX10_stepped_62 : decode cX10_stepped 62 = .ok (.iadd, 1) := by decide +kernel
theorem dX10_stepped_63 : decode cX10_stepped 63 = .ok (.putfield 245, 3) := by decide +kernel
theorem dX10_stepped_66 : decode cX10_stepped 66 = .ok (.aload_n 0, 1) := by decide +kernel
theorem dX10_stepped_67 : decode cX10_stepped 67 = .ok (.getfield 79, 3) := by decide +kernel
theorem dX10_stepped_70 : decode cX10_stepped 70 = .ok (.aload_n 0, 1) := by decide +kernel
theorem dX10_stepped_71 : decode cX10_stepped 71 = .ok (.getfield 52, 3) := by decide +kernel
theorem dX10_stepped_74 : decode cX10_stepped 74 = .ok (.iload_n 2, 1) := by decide +kernel
theorem dX10_stepped_75 : decode cX10_stepped 75 = .ok (.iaload, 1) := by decide +kernel
theorem dX10_stepped_76 : decode cX10_stepped 76 = .ok (.dup2, 1) := by decide +kernel
theorem dX10_stepped_77 : decode cX10_stepped 77 = .ok (.iaload, 1) := by decide +kernel
theorem dX10_stepped_78 : decode cX10_stepped 78 = .ok (.iconst 1, 1) := by decide +kernel
theorem dX10_stepped_79 : decode cX10_stepped 79 = .ok (.iadd, 1) := by decide +kernel
theorem dX10_stepped_80 : decode cX10_stepped 80 = .ok (.iastore, 1) := by decide +kernel
theorem dX10_stepped_81 : decode cX10_stepped 81 = .ok (.aload_n 0, 1) := by decide +kernel
theorem dX10_stepped_82 : decode cX10_stepped 82 = .ok (.iload_n 2, 1) := by decide +kernel
theorem dX10_stepped_83 : decode cX10_stepped 83 = .ok (.invokevirtual 254, 3) := by decide +kernel
theorem dX10_stepped_86 : decode cX10_stepped 86 = .ok (.pop, 1) := by decide +kernel
theorem dX10_stepped_87 : decode cX10_stepped 87 = .ok (.return_, 1) := by decide +kernel
theorem dX10_run_0 : decode cX10_run 0 = .ok (.iload_n 2, 1) := by decide +kernel
theorem dX10_run_1 : decode cX10_run 1 = .ok (.iconst 0, 1) := by decide +kernel
theorem dX10_run_2 : decode cX10_run 2 = .ok (.sipush 4000, 3) := by decide +kernel
theorem dX10_run_5 : decode cX10_run 5 = .ok (.invokestatic 131, 3) := by decide +kernel
theorem dX10_run_8 : decode cX10_run 8 = .ok (.ifCond .ne 5, 3) := by decide +kernel
theorem dX10_run_11 : decode cX10_run 11 = .ok (.iconst (-1), 1) := by decide +kernel
theorem dX10_run_12 : decode cX10_run 12 = .ok (.ireturn, 1) := by decide +kernel
theorem dX10_run_13 : decode cX10_run 13 = .ok (.aload_n 0, 1) := by decide +kernel
theorem dX10_run_14 : decode cX10_run 14 = .ok (.invokevirtual 257, 3) := by decide +kernel
theorem dX10_run_17 : decode cX10_run 17 = .ok (.iload_n 1, 1) := by decide +kernel
theorem dX10_run_18 : decode cX10_run 18 = .ok (.istore_n 3, 1) := by decide +kernel
theorem dX10_run_19 : decode cX10_run 19 = .ok (.aload_n 0, 1) := by decide +kernel
theorem dX10_run_20 : decode cX10_run 20 = .ok (.getfield 159, 3) := by decide +kernel
theorem dX10_run_23 : decode cX10_run 23 = .ok (.ifCond .ne 59, 3) := by decide +kernel
theorem dX10_run_26 : decode cX10_run 26 = .ok (.aload_n 0, 1) := by decide +kernel
theorem dX10_run_27 : decode cX10_run 27 = .ok (.getfield 175, 3) := by decide +kernel
theorem dX10_run_30 : decode cX10_run 30 = .ok (.ifCond .le 52, 3) := by decide +kernel
theorem dX10_run_33 : decode cX10_run 33 = .ok (.aload_n 0, 1) := by decide +kernel
theorem dX10_run_34 : decode cX10_run 34 = .ok (.getfield 245, 3) := by decide +kernel
theorem dX10_run_37 : decode cX10_run 37 = .ok (.iload_n 2, 1) := by decide +kernel
theorem dX10_run_38 : decode cX10_run 38 = .ok (.if_icmp .ne 13, 3) := by decide +kernel
theorem dX10_run_41 : decode cX10_run 41 = .ok (.aload_n 0, 1) := by decide +kernel
theorem dX10_run_42 : decode cX10_run 42 = .ok (.iconst 3, 1) := by decide +kernel
theorem dX10_run_43 : decode cX10_run 43 = .ok (.iconst (-1), 1) := by decide +kernel
theorem dX10_run_44 : decode cX10_run 44 = .ok (.invokevirtual 165, 3) := by decide +kernel
theorem dX10_run_47 : decode cX10_run 47 = .ok (.pop, 1) := by decide +kernel
theorem dX10_run_48 : decode cX10_run 48 = .ok (.goto (-29), 3) := by decide +kernel
theorem dX10_run_51 : decode cX10_run 51 = .ok (.ldc_w 260, 3) := by decide +kernel
theorem dX10_run_54 : decode cX10_run 54 = .ok (.iload_n 3, 1) := by decide +kernel
theorem dX10_run_55 : decode cX10_run 55 = .ok (.imul, 1) := by decide +kernel
theorem dX10_run_56 : decode cX10_run 56 = .ok (.sipush 12345, 3) := by decide +kernel
theorem dX10_run_59 : decode cX10_run 59 = .ok (.iadd, 1) := by decide +kernel
theorem dX10_run_60 : decode cX10_run 60 = .ok (.istore_n 3, 1) := by decide +kernel
theorem dX10_run_61 : decode cX10_run 61 = .ok (.aload_n 0, 1) := by decide +kernel
theorem dX10_run_62 : decode cX10_run 62 = .ok (.iconst 1, 1) := by decide +kernel
theorem dX10_run_63 : decode cX10_run 63 = .ok (.putfield 251, 3) := by decide +kernel
theorem dX10_run_66 : decode cX10_run 66 = .ok (.aload_n 0, 1) := by decide +kernel
theorem dX10_run_67 : decode cX10_run 67 = .ok (.iload_n 3, 1) := by decide +kernel
theorem dX10_run_68 : decode cX10_run 68 = .ok (.bipush 16, 2) := by decide +kernel
theorem dX10_run_70 : decode cX10_run 70 = .ok (.iushr, 1) := by decide +kernel
theorem dX10_run_71 : decode cX10_run 71 = .ok (.aload_n 0, 1) := by decide +kernel
theorem dX10_run_72 : decode cX10_run 72 = .ok (.getfield 175, 3) := by decide +kernel
theorem dX10_run_75 : decode cX10_run 75 = .ok (.irem, 1) := by decide +kernel
theorem dX10_run_76 : decode cX10_run 76 = .ok (.invokevirtual 261, 3) := by decide +kernel
theorem dX10_run_79 : decode cX10_run 79 = .ok (.goto (-60), 3) := by decide +kernel
theorem dX10_run_82 : decode cX10_run 82 = .ok (.aload_n 0, 1) := by decide +kernel
theorem dX10_run_83 : decode cX10_run 83 = .ok (.getfield 153, 3) := by decide +kernel
theorem dX10_run_86 : decode cX10_run 86 = .ok (.ireturn, 1) := by decide +kernel
theorem dX10_ticks_0 : decode cX10_ticks 0 = .ok (.iload_n 1, 1) := by decide +kernel
theorem dX10_ticks_1 : decode cX10_ticks 1 = .ok (.iconst 0, 1) := by decide +kernel
theorem dX10_ticks_2 : decode cX10_ticks 2 = .ok (.sipush 4000, 3) := by decide +kernel
theorem dX10_ticks_5 : decode cX10_ticks 5 = .ok (.invokestatic 131, 3) := by decide +kernel
theorem dX10_ticks_8 : decode cX10_ticks 8 = .ok (.ifCond .ne 5, 3) := by decide +kernel
theorem dX10_ticks_11 : decode cX10_ticks 11 = .ok (.iconst (-1), 1) := by decide +kernel
theorem dX10_ticks_12 : decode cX10_ticks 12 = .ok (.ireturn, 1) := by decide +kernel
theorem dX10_ticks_13 : decode cX10_ticks 13 = .ok (.aload_n 0, 1) := by decide +kernel
theorem dX10_ticks_14 : decode cX10_ticks 14 = .ok (.invokevirtual 257, 3) := by decide +kernel
theorem dX10_ticks_17 : decode cX10_ticks 17 = .ok (.aload_n 0, 1) := by decide +kernel
theorem dX10_ticks_18 : decode cX10_ticks 18 = .ok (.getfield 159, 3) := by decide +kernel
theorem dX10_ticks_21 : decode cX10_ticks 21 = .ok (.ifCond .ne 116, 3) := by decide +kernel
theorem dX10_ticks_24 : decode cX10_ticks 24 = .ok (.aload_n 0, 1) := by decide +kernel
theorem dX10_ticks_25 : decode cX10_ticks 25 = .ok (.getfield 175, 3) := by decide +kernel
theorem dX10_ticks_28 : decode cX10_ticks 28 = .ok (.ifCond .le 109, 3) := by decide +kernel
theorem dX10_ticks_31 : decode cX10_ticks 31 = .ok (.aload_n 0, 1) := by decide +kernel
theorem dX10_ticks_32 : decode cX10_ticks 32 = .ok (.getfield 245, 3) := by decide +kernel
theorem dX10_ticks_35 : decode cX10_ticks 35 = .ok (.iload_n 1, 1) := by decide +kernel
theorem dX10_ticks_36 : decode cX10_ticks 36 = .ok (.if_icmp .ne 13, 3) := by decide +kernel
theorem dX10_ticks_39 : decode cX10_ticks 39 = .ok (.aload_n 0, 1) := by decide +kernel
theorem dX10_ticks_40 : decode cX10_ticks 40 = .ok (.iconst 3, 1) := by decide +kernel
theorem dX10_ticks_41 : decode cX10_ticks 41 = .ok (.iconst (-1), 1) := by decide +kernel
theorem dX10_ticks_42 : decode cX10_ticks 42 = .ok (.invokevirtual 165, 3) := by decide +kernel
theorem dX10_ticks_45 : decode cX10_ticks 45 = .ok (.pop, 1) := by decide +kernel
theorem dX10_ticks_46 : decode cX10_ticks 46 = .ok (.goto (-29), 3) := by decide +kernel
theorem dX10_ticks_49 : decode cX10_ticks 49 = .ok (.aload_n 0, 1) := by decide +kernel
theorem dX10_ticks_50 : decode cX10_ticks 50 = .ok (.dup, 1) := by decide +kernel
theorem dX10_ticks_51 : decode cX10_ticks 51 = .ok (.getfield 248, 3) := by decide +kernel
theorem dX10_ticks_54 : decode cX10_ticks 54 = .ok (.iconst 1, 1) := by decide +kernel
theorem dX10_ticks_55 : decode cX10_ticks 55 = .ok (.iadd, 1) := by decide +kernel
theorem dX10_ticks_56 : decode cX10_ticks 56 = .ok (.putfield 248, 3) := by decide +kernel
theorem dX10_ticks_59 : decode cX10_ticks 59 = .ok (.aload_n 0, 1) := by decide +kernel
theorem dX10_ticks_60 : decode cX10_ticks 60 = .ok (.getfield 175, 3) := by decide +kernel
theorem dX10_ticks_63 : decode cX10_ticks 63 = .ok (.istore_n 2, 1) := by decide +kernel
theorem dX10_ticks_64 : decode cX10_ticks 64 = .ok (.iconst 0, 1) := by decide +kernel
theorem dX10_ticks_65 : decode cX10_ticks 65 = .ok (.istore_n 3, 1) := by decide +kernel
theorem dX10_ticks_66 : decode cX10_ticks 66 = .ok (.iconst 0, 1) := by decide +kernel
theorem dX10_ticks_67 : decode cX10_ticks 67 = .ok (.istore 4, 2) := by decide +kernel
theorem dX10_ticks_69 : decode cX10_ticks 69 = .ok (.iload 4, 2) := by decide +kernel
theorem dX10_ticks_71 : decode cX10_ticks 71 = .ok (.iload_n 2, 1) := by decide +kernel
theorem dX10_ticks_72 : decode cX10_ticks 72 = .ok (.if_icmp .ge 42, 3) := by decide +kernel
theorem dX10_ticks_75 : decode cX10_ticks 75 = .ok (.aload_n 0, 1) := by decide +kernel
theorem dX10_ticks_76 : decode cX10_ticks 76 = .ok (.getfield 159, 3) := by decide +kernel
theorem dX10_ticks_79 : decode cX10_ticks 79 = .ok (.ifCond .ne 35, 3) := by decide +kernel
theorem dX10_ticks_82 : decode cX10_ticks 82 = .ok (.aload_n 0, 1) := by decide +kernel
theorem dX10_ticks_83 : decode cX10_ticks 83 = .ok (.getfield 245, 3) := by decide +kernel
theorem dX10_ticks_86 : decode cX10_ticks 86 = .ok (.iload_n 1, 1) := by decide +kernel
theorem dX10_ticks_87 : decode cX10_ticks 87 = .ok (.if_icmp .ne 13, 3) := by decide +kernel
theorem dX10_ticks_90 : decode cX10_ticks 90 = .ok (.aload_n 0, 1) := by decide +kernel
theorem dX10_ticks_91 : decode cX10_ticks 91 = .ok (.iconst 3, 1) := by decide +kernel
theorem dX10_ticks_92 : decode cX10_ticks 92 = .ok (.iconst (-1), 1) := by decide +kernel
theorem dX10_ticks_93 : decode cX10_ticks 93 = .ok (.invokevirtual 165, 3) := by decide +kernel
theorem dX10_ticks_96 : decode cX10_ticks 96 = .ok (.pop, 1) := by decide +kernel
theorem dX10_ticks_97 : decode cX10_ticks 97 = .ok (.goto 11, 3) := by decide +kernel
theorem dX10_ticks_100 : decode cX10_ticks 100 = .ok (.aload_n 0, 1) := by decide +kernel
theorem dX10_ticks_101 : decode cX10_ticks 101 = .ok (.iconst 0, 1) := by decide +kernel
theorem dX10_ticks_102 : decode cX10_ticks 102 = .ok (.invokevirtual 261, 3) := by decide +kernel
theorem dX10_ticks_105 : decode cX10_ticks 105 = .ok (.iinc 3 1, 3) := by decide +kernel
theorem dX10_ticks_108 : decode cX10_ticks 108 = .ok (.iinc 4 1, 3) := by decide +kernel
theorem dX10_ticks_111 : decode cX10_ticks 111 = .ok (.goto (-42), 3) := by decide +kernel
theorem dX10_ticks_114 : decode cX10_ticks 114 = .ok (.aload_n 0, 1) := by decide +kernel
theorem dX10_ticks_115 : decode cX10_ticks 115 = .ok (.iload_n 3, 1) := by decide +kernel
theorem dX10_ticks_116 : decode cX10_ticks 116 = .ok (.aload_n 0, 1) := by decide +kernel
theorem dX10_ticks_117 : decode cX10_ticks 117 = .ok (.getfield 251, 3) := by decide +kernel
theorem dX10_ticks_120 : decode cX10_ticks 120 = .ok (.if_icmp .le 7, 3) := by decide +kernel
theorem dX10_ticks_123 : decode cX10_ticks 123 = .ok (.iload_n 3, 1) := by decide +kernel
theorem dX10_ticks_124 : decode cX10_ticks 124 = .ok (.goto 7, 3) := by decide +kernel
theorem dX10_ticks_127 : decode cX10_ticks 127 = .ok (.aload_n 0, 1) := by decide +kernel
theorem dX10_ticks_128 : decode cX10_ticks 128 = .ok (.getfield 251, 3) := by decide +kernel
theorem dX10_ticks_131 : decode cX10_ticks 131 = .ok (.putfield 251, 3) := by decide +kernel
theorem dX10_ticks_134 : decode cX10_ticks 134 = .ok (.goto (-117), 3) := by decide +kernel
theorem dX10_ticks_137 : decode cX10_ticks 137 = .ok (.aload_n 0, 1) := by decide +kernel
theorem dX10_ticks_138 : decode cX10_ticks 138 = .ok (.getfield 153, 3) := by decide +kernel
theorem dX10_ticks_141 : decode cX10_ticks 141 = .ok (.ireturn, 1) := by decide +kernel
theorem dX10_left_0 : decode cX10_left 0 = .ok (.iconst 0, 1) := by decide +kernel
theorem dX10_left_1 : decode cX10_left 1 = .ok (.istore_n 1, 1) := by decide +kernel
theorem dX10_left_2 : decode cX10_left 2 = .ok (.iconst 0, 1) := by decide +kernel
theorem dX10_left_3 : decode cX10_left 3 = .ok (.istore_n 2, 1) := by decide +kernel
theorem dX10_left_4 : decode cX10_left 4 = .ok (.iload_n 2, 1) := by decide +kernel
theorem dX10_left_5 : decode cX10_left 5 = .ok (.aload_n 0, 1) := by decide +kernel
theorem dX10_left_6 : decode cX10_left 6 = .ok (.getfield 169, 3) := by decide +kernel
theorem dX10_left_9 : decode cX10_left 9 = .ok (.if_icmp .ge 44, 3) := by decide +kernel
theorem dX10_left_12 : decode cX10_left 12 = .ok (.iconst 0, 1) := by decide +kernel
theorem dX10_left_13 : decode cX10_left 13 = .ok (.istore_n 3, 1) := by decide +kernel
theorem dX10_left_14 : decode cX10_left 14 = .ok (.iload_n 3, 1) := by decide +kernel
theorem dX10_left_15 : decode cX10_left 15 = .ok (.iconst 3, 1) := by decide +kernel
theorem dX10_left_16 : decode cX10_left 16 = .ok (.if_icmp .ge 31, 3) := by decide +kernel
theorem dX10_left_19 : decode cX10_left 19 = .ok (.aload_n 0, 1) := by decide +kernel
theorem dX10_left_20 : decode cX10_left 20 = .ok (.getfield 61, 3) := by decide +kernel
theorem dX10_left_23 : decode cX10_left 23 = .ok (.iload_n 2, 1) := by decide +kernel
theorem dX10_left_24 : decode cX10_left 24 = .ok (.iaload, 1) := by decide +kernel
theorem dX10_left_25 : decode cX10_left 25 = .ok (.ifCond .ne 22, 3) := by decide +kernel
theorem dX10_left_28 : decode cX10_left 28 = .ok (.iload_n 1, 1) := by decide +kernel
theorem dX10_left_29 : decode cX10_left 29 = .ok (.aload_n 0, 1) := by decide +kernel
theorem dX10_left_30 : decode cX10_left 30 = .ok (.getfield 58, 3) := by decide +kernel
theorem dX10_left_33 : decode cX10_left 33 = .ok (.iload_n 2, 1) := by decide +kernel
theorem dX10_left_34 : decode cX10_left 34 = .ok (.iaload, 1) := by decide +kernel
theorem dX10_left_35 : decode cX10_left 35 = .ok (.iload_n 3, 1) := by decide +kernel
theorem dX10_left_36 : decode cX10_left 36 = .ok (.ishr, 1) := by decide +kernel
theorem dX10_left_37 : decode cX10_left 37 = .ok (.iconst 1, 1) := by decide +kernel
theorem dX10_left_38 : decode cX10_left 38 = .ok (.iand, 1) := by decide +kernel
theorem dX10_left_39 : decode cX10_left 39 = .ok (.iadd, 1) := by decide +kernel
theorem dX10_left_40 : decode cX10_left 40 = .ok (.istore_n 1, 1) := by decide +kernel
theorem dX10_left_41 : decode cX10_left 41 = .ok (.iinc 3 1, 3) := by decide +kernel
theorem dX10_left_44 : decode cX10_left 44 = .ok (.goto (-30), 3) := by decide +kernel
theorem dX10_left_47 : decode cX10_left 47 = .ok (.iinc 2 1, 3) := by decide +kernel
theorem dX10_left_50 : decode cX10_left 50 = .ok (.goto (-46), 3) := by decide +kernel
theorem dX10_left_53 : decode cX10_left 53 = .ok (.iload_n 1, 1) := by decide +kernel
theorem dX10_left_54 : decode cX10_left 54 = .ok (.ireturn, 1) := by decide +kernel
theorem dX10_waiting_0 : decode cX10_waiting 0 = .ok (.iconst 0, 1) := by decide +kernel
theorem dX10_waiting_1 : decode cX10_waiting 1 = .ok (.istore_n 1, 1) := by decide +kernel
theorem dX10_waiting_2 : decode cX10_waiting 2 = .ok (.iconst 0, 1) := by decide +kernel
theorem dX10_waiting_3 : decode cX10_waiting 3 = .ok (.istore_n 2, 1) := by decide +kernel
theorem dX10_waiting_4 : decode cX10_waiting 4 = .ok (.iload_n 2, 1) := by decide +kernel
theorem dX10_waiting_5 : decode cX10_waiting 5 = .ok (.aload_n 0, 1) := by decide +kernel
theorem dX10_waiting_6 : decode cX10_waiting 6 = .ok (.getfield 242, 3) := by decide +kernel
theorem dX10_waiting_9 : decode cX10_waiting 9 = .ok (.if_icmp .ge 26, 3) := by decide +kernel
theorem dX10_waiting_12 : decode cX10_waiting 12 = .ok (.iload_n 1, 1) := by decide +kernel
theorem dX10_waiting_13 : decode cX10_waiting 13 = .ok (.aload_n 0, 1) := by decide +kernel
theorem dX10_waiting_14 : decode cX10_waiting 14 = .ok (.getfield 106, 3) := by decide +kernel
theorem dX10_waiting_17 : decode cX10_waiting 17 = .ok (.iload_n 2, 1) := by decide +kernel
theorem dX10_waiting_18 : decode cX10_waiting 18 = .ok (.iaload, 1) := by decide +kernel
theorem dX10_waiting_19 : decode cX10_waiting 19 = .ok (.ifCond .lt 7, 3) := by decide +kernel
theorem dX10_waiting_22 : decode cX10_waiting 22 = .ok (.iconst 1, 1) := by decide +kernel
theorem dX10_waiting_23 : decode cX10_waiting 23 = .ok (.goto 4, 3) := by decide +kernel
theorem dX10_waiting_26 : decode cX10_waiting 26 = .ok (.iconst 0, 1) := by decide +kernel
theorem dX10_waiting_27 : decode cX10_waiting 27 = .ok (.iadd, 1) := by decide +kernel
theorem dX10_waiting_28 : decode cX10_waiting 28 = .ok (.istore_n 1, 1) := by decide +kernel
theorem dX10_waiting_29 : decode cX10_waiting 29 = .ok (.iinc 2 1, 3) := by decide +kernel
theorem dX10_waiting_32 : decode cX10_waiting 32 = .ok (.goto (-28), 3) := by decide +kernel
theorem dX10_waiting_35 : decode cX10_waiting 35 = .ok (.iload_n 1, 1) := by decide +kernel
theorem dX10_waiting_36 : decode cX10_waiting 36 = .ok (.ireturn, 1) := by decide +kernel
theorem dX10_about_0 : decode cX10_about 0 = .ok (.aload_n 0, 1) := by decide +kernel
theorem dX10_about_1 : decode cX10_about 1 = .ok (.getfield 149, 3) := by decide +kernel
theorem dX10_about_4 : decode cX10_about 4 = .ok (.ifCond .ne 5, 3) := by decide +kernel
theorem dX10_about_7 : decode cX10_about 7 = .ok (.iconst (-1), 1) := by decide +kernel
theorem dX10_about_8 : decode cX10_about 8 = .ok (.ireturn, 1) := by decide +kernel
theorem dX10_about_9 : decode cX10_about 9 = .ok (.iload_n 1, 1) := by decide +kernel
theorem dX10_about_10 : decode cX10_about 10 = .ok (.tableswitch 113 0 10 #[58, 63, 68, 73, 78, 83, 88, 93, 98, 103, 108], 58) := by decide +kernel
theorem dX10_about_68 : decode cX10_about 68 = .ok (.aload_n 0, 1) := by decide +kernel
theorem dX10_about_69 : decode cX10_about 69 = .ok (.getfield 153, 3) := by decide +kernel
theorem dX10_about_72 : decode cX10_about 72 = .ok (.ireturn, 1) := by decide +kernel
theorem dX10_about_73 : decode cX10_about 73 = .ok (.aload_n 0, 1) := by decide +kernel
theorem dX10_about_74 : decode cX10_about 74 = .ok (.getfield 245, 3) := by decide +kernel
theorem dX10_about_77 : decode cX10_about 77 = .ok (.ireturn, 1) := by decide +kernel
theorem dX10_about_78 : decode cX10_about 78 = .ok (.aload_n 0, 1) := by decide +kernel
theorem dX10_about_79 : decode cX10_about 79 = .ok (.getfield 248, 3) := by decide +kernel
theorem dX10_about_82 : decode cX10_about 82 = .ok (.ireturn, 1) := by decide +kernel
theorem dX10_about_83 : decode cX10_about 83 = .ok (.aload_n 0, 1) := by decide +kernel
theorem dX10_about_84 : decode cX10_about 84 = .ok (.getfield 251, 3) := by decide +kernel
theorem dX10_about_87 : decode cX10_about 87 = .ok (.ireturn, 1) := by decide +kernel
theorem dX10_about_88 : decode cX10_about 88 = .ok (.aload_n 0, 1) := by decide +kernel
theorem dX10_about_89 : decode cX10_about 89 = .ok (.invokevirtual 265, 3) := by decide +kernel
theorem dX10_about_92 : decode cX10_about 92 = .ok (.ireturn, 1) := by decide +kernel
theorem dX10_about_93 : decode cX10_about 93 = .ok (.aload_n 0, 1) := by decide +kernel
theorem dX10_about_94 : decode cX10_about 94 = .ok (.invokevirtual 269, 3) := by decide +kernel
theorem dX10_about_97 : decode cX10_about 97 = .ok (.ireturn, 1) := by decide +kernel
theorem dX10_about_98 : decode cX10_about 98 = .ok (.aload_n 0, 1) := by decide +kernel
theorem dX10_about_99 : decode cX10_about 99 = .ok (.getfield 218, 3) := by decide +kernel
theorem dX10_about_102 : decode cX10_about 102 = .ok (.ireturn, 1) := by decide +kernel
theorem dX10_about_103 : decode cX10_about 103 = .ok (.aload_n 0, 1) := by decide +kernel
theorem dX10_about_104 : decode cX10_about 104 = .ok (.getfield 231, 3) := by decide +kernel
theorem dX10_about_107 : decode cX10_about 107 = .ok (.ireturn, 1) := by decide +kernel
theorem dX10_about_108 : decode cX10_about 108 = .ok (.aload_n 0, 1) := by decide +kernel
theorem dX10_about_109 : decode cX10_about 109 = .ok (.getfield 162, 3) := by decide +kernel
theorem dX10_about_112 : decode cX10_about 112 = .ok (.ireturn, 1) := by decide +kernel
theorem dX10_about_113 : decode cX10_about 113 = .ok (.aload_n 0, 1) := by decide +kernel
theorem dX10_about_114 : decode cX10_about 114 = .ok (.getfield 156, 3) := by decide +kernel
theorem dX10_about_117 : decode cX10_about 117 = .ok (.ireturn, 1) := by decide +kernel
theorem dX10_about_118 : decode cX10_about 118 = .ok (.aload_n 0, 1) := by decide +kernel
theorem dX10_about_119 : decode cX10_about 119 = .ok (.getfield 175, 3) := by decide +kernel
theorem dX10_about_122 : decode cX10_about 122 = .ok (.ireturn, 1) := by decide +kernel
theorem dX10_about_123 : decode cX10_about 123 = .ok (.iconst (-1), 1) := by decide +kernel
theorem dX10_about_124 : decode cX10_about 124 = .ok (.ireturn, 1) := by decide +kernel
theorem dX10_told1_0 : decode cX10_told1 0 = .ok (.iload 4, 2) := by decide +kernel
theorem dX10_told1_2 : decode cX10_told1 2 = .ok (.ifCond .ne 5, 3) := by decide +kernel
theorem dX10_told1_5 : decode cX10_told1 5 = .ok (.iload_n 1, 1) := by decide +kernel
theorem dX10_told1_6 : decode cX10_told1 6 = .ok (.ireturn, 1) := by decide +kernel
theorem dX10_told1_7 : decode cX10_told1 7 = .ok (.iload 4, 2) := by decide +kernel
theorem dX10_told1_9 : decode cX10_told1 9 = .ok (.iconst 1, 1) := by decide +kernel
theorem dX10_told1_10 : decode cX10_told1 10 = .ok (.if_icmp .ne 27, 3) := by decide +kernel
theorem dX10_told1_13 : decode cX10_told1 13 = .ok (.iload_n 1, 1) := by decide +kernel
theorem dX10_told1_14 : decode cX10_told1 14 = .ok (.ifCond .ne 7, 3) := by decide +kernel
theorem dX10_told1_17 : decode cX10_told1 17 = .ok (.iconst (-1), 1) := by decide +kernel
theorem dX10_told1_18 : decode cX10_told1 18 = .ok (.goto 18, 3) := by decide +kernel
theorem dX10_told1_21 : decode cX10_told1 21 = .ok (.iload_n 1, 1) := by decide +kernel
theorem dX10_told1_22 : decode cX10_told1 22 = .ok (.iconst 2, 1) := by decide +kernel
theorem dX10_told1_23 : decode cX10_told1 23 = .ok (.if_icmp .ne 12, 3) := by decide +kernel
theorem dX10_told1_26 : decode cX10_told1 26 = .ok (.aload_n 0, 1) := by decide +kernel
theorem dX10_told1_27 : decode cX10_told1 27 = .ok (.getfield 88, 3) := by decide +kernel
theorem dX10_told1_30 : decode cX10_told1 30 = .ok (.iload_n 2, 1) := by decide +kernel
theorem dX10_told1_31 : decode cX10_told1 31 = .ok (.iaload, 1) := by decide +kernel
theorem dX10_told1_32 : decode cX10_told1 32 = .ok (.goto 4, 3) := by decide +kernel
theorem dX10_told1_35 : decode cX10_told1 35 = .ok (.iload_n 2, 1) := by decide +kernel
theorem dX10_told1_36 : decode cX10_told1 36 = .ok (.ireturn, 1) := by decide +kernel
theorem dX10_told1_37 : decode cX10_told1 37 = .ok (.iload_n 1, 1) := by decide +kernel
theorem dX10_told1_38 : decode cX10_told1 38 = .ok (.iconst 3, 1) := by decide +kernel
theorem dX10_told1_39 : decode cX10_told1 39 = .ok (.if_icmp .ne 7, 3) := by decide +kernel
theorem dX10_told1_42 : decode cX10_told1 42 = .ok (.iload_n 3, 1) := by decide +kernel
theorem dX10_told1_43 : decode cX10_told1 43 = .ok (.goto 4, 3) := by decide +kernel
theorem dX10_told1_46 : decode cX10_told1 46 = .ok (.iconst (-1), 1) := by decide +kernel
theorem dX10_told1_47 : decode cX10_told1 47 = .ok (.ireturn, 1) := by decide +kernel
theorem dX10_end_0 : decode cX10_end 0 = .ok (.aload_n 0, 1) := by decide +kernel
theorem dX10_end_1 : decode cX10_end 1 = .ok (.getfield 149, 3) := by decide +kernel
theorem dX10_end_4 : decode cX10_end 4 = .ok (.ifCond .eq 48, 3) := by decide +kernel
theorem dX10_end_7 : decode cX10_end 7 = .ok (.iload_n 1, 1) := by decide +kernel
theorem dX10_end_8 : decode cX10_end 8 = .ok (.iconst 0, 1) := by decide +kernel
theorem dX10_end_9 : decode cX10_end 9 = .ok (.bipush 9, 2) := by decide +kernel
theorem dX10_end_11 : decode cX10_end 11 = .ok (.invokestatic 131, 3) := by decide +kernel
theorem dX10_end_14 : decode cX10_end 14 = .ok (.ifCond .eq 38, 3) := by decide +kernel
theorem dX10_end_17 : decode cX10_end 17 = .ok (.iload_n 2, 1) := by decide +kernel
theorem dX10_end_18 : decode cX10_end 18 = .ok (.iconst 0, 1) := by decide +kernel
theorem dX10_end_19 : decode cX10_end 19 = .ok (.iconst 2, 1) := by decide +kernel
theorem dX10_end_20 : decode cX10_end 20 = .ok (.invokestatic 131, 3) := by decide +kernel
theorem dX10_end_23 : decode cX10_end 23 = .ok (.ifCond .eq 29, 3) := by decide +kernel
theorem dX10_end_26 : decode cX10_end 26 = .ok (.aload_n 0, 1) := by decide +kernel
theorem dX10_end_27 : decode cX10_end 27 = .ok (.aload_n 0, 1) := by decide +kernel
theorem dX10_end_28 : decode cX10_end 28 = .ok (.getfield 112, 3) := by decide +kernel
theorem dX10_end_31 : decode cX10_end 31 = .ok (.iload_n 1, 1) := by decide +kernel
theorem dX10_end_32 : decode cX10_end 32 = .ok (.iaload, 1) := by decide +kernel
theorem dX10_end_33 : decode cX10_end 33 = .ok (.aload_n 0, 1) := by decide +kernel
theorem dX10_end_34 : decode cX10_end 34 = .ok (.getfield 115, 3) := by decide +kernel
theorem dX10_end_37 : decode cX10_end 37 = .ok (.iload_n 1, 1) := by decide +kernel
theorem dX10_end_38 : decode cX10_end 38 = .ok (.iaload, 1) := by decide +kernel
theorem dX10_end_39 : decode cX10_end 39 = .ok (.aload_n 0, 1) := by decide +kernel
theorem dX10_end_40 : decode cX10_end 40 = .ok (.getfield 118, 3) := by decide +kernel
theorem dX10_end_43 : decode cX10_end 43 = .ok (.iload_n 1, 1) := by decide +kernel
theorem dX10_end_44 : decode cX10_end 44 = .ok (.iaload, 1) := by decide +kernel
theorem dX10_end_45 : decode cX10_end 45 = .ok (.iload_n 2, 1) := by decide +kernel
theorem dX10_end_46 : decode cX10_end 46 = .ok (.invokevirtual 272, 3) := by decide +kernel
theorem dX10_end_49 : decode cX10_end 49 = .ok (.goto 4, 3) := by decide +kernel
theorem dX10_end_52 : decode cX10_end 52 = .ok (.iconst (-1), 1) := by decide +kernel
theorem dX10_end_53 : decode cX10_end 53 = .ok (.ireturn, 1) := by decide +kernel
theorem dX10_fired_0 : decode cX10_fired 0 = .ok (.aload_n 0, 1) := by decide +kernel
theorem dX10_fired_1 : decode cX10_fired 1 = .ok (.getfield 149, 3) := by decide +kernel
theorem dX10_fired_4 : decode cX10_fired 4 = .ok (.ifCond .eq 20, 3) := by decide +kernel
theorem dX10_fired_7 : decode cX10_fired 7 = .ok (.aload_n 0, 1) := by decide +kernel
theorem dX10_fired_8 : decode cX10_fired 8 = .ok (.iload_n 1, 1) := by decide +kernel
theorem dX10_fired_9 : decode cX10_fired 9 = .ok (.invokevirtual 139, 3) := by decide +kernel
theorem dX10_fired_12 : decode cX10_fired 12 = .ok (.ifCond .eq 12, 3) := by decide +kernel
theorem dX10_fired_15 : decode cX10_fired 15 = .ok (.aload_n 0, 1) := by decide +kernel
theorem dX10_fired_16 : decode cX10_fired 16 = .ok (.getfield 79, 3) := by decide +kernel
theorem dX10_fired_19 : decode cX10_fired 19 = .ok (.iload_n 1, 1) := by decide +kernel
theorem dX10_fired_20 : decode cX10_fired 20 = .ok (.iaload, 1) := by decide +kernel
theorem dX10_fired_21 : decode cX10_fired 21 = .ok (.goto 4, 3) := by decide +kernel
theorem dX10_fired_24 : decode cX10_fired 24 = .ok (.iconst (-1), 1) := by decide +kernel
theorem dX10_fired_25 : decode cX10_fired 25 = .ok (.ireturn, 1) := by decide +kernel
theorem dX10_cell_0 : decode cX10_cell 0 = .ok (.aload_n 0, 1) := by decide +kernel
theorem dX10_cell_1 : decode cX10_cell 1 = .ok (.getfield 149, 3) := by decide +kernel
theorem dX10_cell_4 : decode cX10_cell 4 = .ok (.ifCond .eq 12, 3) := by decide +kernel
theorem dX10_cell_7 : decode cX10_cell 7 = .ok (.iload_n 3, 1) := by decide +kernel
theorem dX10_cell_8 : decode cX10_cell 8 = .ok (.iconst 0, 1) := by decide +kernel
theorem dX10_cell_9 : decode cX10_cell 9 = .ok (.iconst 2, 1) := by decide +kernel
theorem dX10_cell_10 : decode cX10_cell 10 = .ok (.invokestatic 131, 3) := by decide +kernel
theorem dX10_cell_13 : decode cX10_cell 13 = .ok (.ifCond .ne 5, 3) := by decide +kernel
theorem dX10_cell_16 : decode cX10_cell 16 = .ok (.iconst (-1), 1) := by decide +kernel
theorem dX10_cell_17 : decode cX10_cell 17 = .ok (.ireturn, 1) := by decide +kernel
theorem dX10_cell_18 : decode cX10_cell 18 = .ok (.iconst 0, 1) := by decide +kernel
theorem dX10_cell_19 : decode cX10_cell 19 = .ok (.istore 4, 2) := by decide +kernel
theorem dX10_cell_21 : decode cX10_cell 21 = .ok (.iload 4, 2) := by decide +kernel
theorem dX10_cell_23 : decode cX10_cell 23 = .ok (.aload_n 0, 1) := by decide +kernel
theorem dX10_cell_24 : decode cX10_cell 24 = .ok (.getfield 237, 3) := by decide +kernel
theorem dX10_cell_27 : decode cX10_cell 27 = .ok (.if_icmp .ge 90, 3) := by decide +kernel
theorem dX10_cell_30 : decode cX10_cell 30 = .ok (.aload_n 0, 1) := by decide +kernel
theorem dX10_cell_31 : decode cX10_cell 31 = .ok (.getfield 91, 3) := by decide +kernel
theorem dX10_cell_34 : decode cX10_cell 34 = .ok (.iload 4, 2) := by decide +kernel
theorem dX10_cell_36 : decode cX10_cell 36 = .ok (.iaload, 1) := by decide +kernel
theorem dX10_cell_37 : decode cX10_cell 37 = .ok (.iload_n 1, 1) := by decide +kernel
theorem dX10_cell_38 : decode cX10_cell 38 = .ok (.if_icmp .ne 73, 3) := by decide +kernel
theorem dX10_cell_41 : decode cX10_cell 41 = .ok (.aload_n 0, 1) := by decide +kernel
theorem dX10_cell_42 : decode cX10_cell 42 = .ok (.getfield 94, 3) := by decide +kernel
theorem dX10_cell_45 : decode cX10_cell 45 = .ok (.iload 4, 2) := by decide +kernel
theorem dX10_cell_47 : decode cX10_cell 47 = .ok (.iaload, 1) := by decide +kernel
theorem dX10_cell_48 : decode cX10_cell 48 = .ok (.ifCond .eq 6, 3) := by decide +kernel
theorem dX10_cell_51 : decode cX10_cell 51 = .ok (.goto 60, 3) := by decide +kernel
theorem dX10_cell_54 : decode cX10_cell 54 = .ok (.iload_n 2, 1) := by decide +kernel
theorem dX10_cell_55 : decode cX10_cell 55 = .ok (.iconst 0, 1) := by decide +kernel
theorem dX10_cell_56 : decode cX10_cell 56 = .ok (.aload_n 0, 1) := by decide +kernel
theorem dX10_cell_57 : decode cX10_cell 57 = .ok (.getfield 88, 3) := by decide +kernel
theorem dX10_cell_60 : decode cX10_cell 60 = .ok (.iload 4, 2) := by decide +kernel
theorem dX10_cell_62 : decode cX10_cell 62 = .ok (.iaload, 1) := by decide +kernel
theorem dX10_cell_63 : decode cX10_cell 63 = .ok (.iconst 1, 1) := by decide +kernel
theorem dX10_cell_64 : decode cX10_cell 64 = .ok (.isub, 1) := by decide +kernel
theorem dX10_cell_65 : decode cX10_cell 65 = .ok (.invokestatic 131, 3) := by decide +kernel
theorem dX10_cell_68 : decode cX10_cell 68 = .ok (.ifCond .ne 5, 3) := by decide +kernel
theorem dX10_cell_71 : decode cX10_cell 71 = .ok (.iconst (-1), 1) := by decide +kernel
theorem dX10_cell_72 : decode cX10_cell 72 = .ok (.ireturn, 1) := by decide +kernel
theorem dX10_cell_73 : decode cX10_cell 73 = .ok (.aload_n 0, 1) := by decide +kernel
theorem dX10_cell_74 : decode cX10_cell 74 = .ok (.getfield 85, 3) := by decide +kernel
theorem dX10_cell_77 : decode cX10_cell 77 = .ok (.iload 4, 2) := by decide +kernel
theorem dX10_cell_79 : decode cX10_cell 79 = .ok (.iaload, 1) := by decide +kernel
theorem dX10_cell_80 : decode cX10_cell 80 = .ok (.iload_n 2, 1) := by decide +kernel
theorem dX10_cell_81 : decode cX10_cell 81 = .ok (.iadd, 1) := by decide +kernel
theorem dX10_cell_82 : decode cX10_cell 82 = .ok (.istore 5, 2) := by decide +kernel
theorem dX10_cell_84 : decode cX10_cell 84 = .ok (.aload_n 0, 1) := by decide +kernel
theorem dX10_cell_85 : decode cX10_cell 85 = .ok (.aload_n 0, 1) := by decide +kernel
theorem dX10_cell_86 : decode cX10_cell 86 = .ok (.getfield 97, 3) := by decide +kernel
theorem dX10_cell_89 : decode cX10_cell 89 = .ok (.iload 5, 2) := by decide +kernel
theorem dX10_cell_91 : decode cX10_cell 91 = .ok (.iaload, 1) := by decide +kernel
theorem dX10_cell_92 : decode cX10_cell 92 = .ok (.aload_n 0, 1) := by decide +kernel
theorem dX10_cell_93 : decode cX10_cell 93 = .ok (.getfield 100, 3) := by decide +kernel
theorem dX10_cell_96 : decode cX10_cell 96 = .ok (.iload 5, 2) := by decide +kernel
theorem dX10_cell_98 : decode cX10_cell 98 = .ok (.iaload, 1) := by decide +kernel
theorem dX10_cell_99 : decode cX10_cell 99 = .ok (.aload_n 0, 1) := by decide +kernel
theorem dX10_cell_100 : decode cX10_cell 100 = .ok (.getfield 103, 3) := by decide +kernel
theorem dX10_cell_103 : decode cX10_cell 103 = .ok (.iload 5, 2) := by decide +kernel
theorem dX10_cell_105 : decode cX10_cell 105 = .ok (.iaload, 1) := by decide +kernel
theorem dX10_cell_106 : decode cX10_cell 106 = .ok (.iload_n 3, 1) := by decide +kernel
theorem dX10_cell_107 : decode cX10_cell 107 = .ok (.invokevirtual 272, 3) := by decide +kernel
theorem dX10_cell_110 : decode cX10_cell 110 = .ok (.ireturn, 1) := by decide +kernel
theorem dX10_cell_111 : decode cX10_cell 111 = .ok (.iinc 4 1, 3) := by decide +kernel
theorem dX10_cell_114 : decode cX10_cell 114 = .ok (.goto (-93), 3) := by decide +kernel
theorem dX10_cell_117 : decode cX10_cell 117 = .ok (.iconst (-1), 1) := by decide +kernel
theorem dX10_cell_118 : decode cX10_cell 118 = .ok (.ireturn, 1) := by decide +kernel
theorem dX10_told_0 : decode cX10_told 0 = .ok (.aload_n 0, 1) := by decide +kernel
theorem dX10_told_1 : decode cX10_told 1 = .ok (.iload_n 1, 1) := by decide +kernel
theorem dX10_told_2 : decode cX10_told 2 = .ok (.invokevirtual 139, 3) := by decide +kernel
theorem dX10_told_5 : decode cX10_told 5 = .ok (.ifCond .ne 5, 3) := by decide +kernel
theorem dX10_told_8 : decode cX10_told 8 = .ok (.iconst (-1), 1) := by decide +kernel
theorem dX10_told_9 : decode cX10_told 9 = .ok (.ireturn, 1) := by decide +kernel
