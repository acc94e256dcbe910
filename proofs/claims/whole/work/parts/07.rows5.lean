theorem dX10_init_67 : decode cX10_init 67 = .ok (.newarray .int, 2) := by decide +kernel
theorem dX10_init_69 : decode cX10_init 69 = .ok (.putfield 31, 3) := by decide +kernel
theorem dX10_init_72 : decode cX10_init 72 = .ok (.aload_n 0, 1) := by decide +kernel
theorem dX10_init_73 : decode cX10_init 73 = .ok (.bipush 40, 2) := by decide +kernel
theorem dX10_init_75 : decode cX10_init 75 = .ok (.newarray .int, 2) := by decide +kernel
theorem dX10_init_77 : decode cX10_init 77 = .ok (.putfield 34, 3) := by decide +kernel
theorem dX10_init_80 : decode cX10_init 80 = .ok (.aload_n 0, 1) := by decide +kernel
theorem dX10_init_81 : decode cX10_init 81 = .ok (.bipush 40, 2) := by decide +kernel
theorem dX10_init_83 : decode cX10_init 83 = .ok (.newarray .int, 2) := by decide +kernel
theorem dX10_init_85 : decode cX10_init 85 = .ok (.putfield 37, 3) := by decide +kernel
theorem dX10_init_88 : decode cX10_init 88 = .ok (.aload_n 0, 1) := by decide +kernel
theorem dX10_init_89 : decode cX10_init 89 = .ok (.sipush 600, 3) := by decide +kernel
theorem dX10_init_92 : decode cX10_init 92 = .ok (.newarray .int, 2) := by decide +kernel
theorem dX10_init_94 : decode cX10_init 94 = .ok (.putfield 40, 3) := by decide +kernel
theorem dX10_init_97 : decode cX10_init 97 = .ok (.aload_n 0, 1) := by decide +kernel
theorem dX10_init_98 : decode cX10_init 98 = .ok (.sipush 600, 3) := by decide +kernel
theorem dX10_init_101 : decode cX10_init 101 = .ok (.newarray .int, 2) := by decide +kernel
theorem dX10_init_103 : decode cX10_init 103 = .ok (.putfield 43, 3) := by decide +kernel
theorem dX10_init_106 : decode cX10_init 106 = .ok (.aload_n 0, 1) := by decide +kernel
theorem dX10_init_107 : decode cX10_init 107 = .ok (.sipush 600, 3) := by decide +kernel
theorem dX10_init_110 : decode cX10_init 110 = .ok (.newarray .int, 2) := by decide +kernel
theorem dX10_init_112 : decode cX10_init 112 = .ok (.putfield 46, 3) := by decide +kernel
theorem dX10_init_115 : decode cX10_init 115 = .ok (.aload_n 0, 1) := by decide +kernel
theorem dX10_init_116 : decode cX10_init 116 = .ok (.sipush 600, 3) := by decide +kernel
theorem dX10_init_119 : decode cX10_init 119 = .ok (.newarray .int, 2) := by decide +kernel
theorem dX10_init_121 : decode cX10_init 121 = .ok (.putfield 49, 3) := by decide +kernel
theorem dX10_init_124 : decode cX10_init 124 = .ok (.aload_n 0, 1) := by decide +kernel
theorem dX10_init_125 : decode cX10_init 125 = .ok (.sipush 3000, 3) := by decide +kernel
theorem dX10_init_128 : decode cX10_init 128 = .ok (.newarray .int, 2) := by decide +kernel
theorem dX10_init_130 : decode cX10_init 130 = .ok (.putfield 52, 3) := by decide +kernel
theorem dX10_init_133 : decode cX10_init 133 = .ok (.aload_n 0, 1) := by decide +kernel
theorem dX10_init_134 : decode cX10_init 134 = .ok (.sipush 3000, 3) := by decide +kernel
theorem dX10_init_137 : decode cX10_init 137 = .ok (.newarray .int, 2) := by decide +kernel
theorem dX10_init_139 : decode cX10_init 139 = .ok (.putfield 55, 3) := by decide +kernel
theorem dX10_init_142 : decode cX10_init 142 = .ok (.aload_n 0, 1) := by decide +kernel
theorem dX10_init_143 : decode cX10_init 143 = .ok (.sipush 3000, 3) := by decide +kernel
theorem dX10_init_146 : decode cX10_init 146 = .ok (.newarray .int, 2) := by decide +kernel
theorem dX10_init_148 : decode cX10_init 148 = .ok (.putfield 58, 3) := by decide +kernel
theorem dX10_init_151 : decode cX10_init 151 = .ok (.aload_n 0, 1) := by decide +kernel
theorem dX10_init_152 : decode cX10_init 152 = .ok (.sipush 3000, 3) := by decide +kernel
theorem dX10_init_155 : decode cX10_init 155 = .ok (.newarray .int, 2) := by decide +kernel
theorem dX10_init_157 : decode cX10_init 157 = .ok (.putfield 61, 3) := by decide +kernel
theorem dX10_init_160 : decode cX10_init 160 = .ok (.aload_n 0, 1) := by decide +kernel
theorem dX10_init_161 : decode cX10_init 161 = .ok (.sipush 3000, 3) := by decide +kernel
theorem dX10_init_164 : decode cX10_init 164 = .ok (.newarray .int, 2) := by decide +kernel
theorem dX10_init_166 : decode cX10_init 166 = .ok (.putfield 64, 3) := by decide +kernel
theorem dX10_init_169 : decode cX10_init 169 = .ok (.aload_n 0, 1) := by decide +kernel
theorem dX10_init_170 : decode cX10_init 170 = .ok (.sipush 9000, 3) := by decide +kernel
theorem dX10_init_173 : decode cX10_init 173 = .ok (.newarray .int, 2) := by decide +kernel
theorem dX10_init_175 : decode cX10_init 175 = .ok (.putfield 67, 3) := by decide +kernel
theorem dX10_init_178 : decode cX10_init 178 = .ok (.aload_n 0, 1) := by decide +kernel
theorem dX10_init_179 : decode cX10_init 179 = .ok (.sipush 9000, 3) := by decide +kernel
theorem dX10_init_182 : decode cX10_init 182 = .ok (.newarray .int, 2) := by decide +kernel
theorem dX10_init_184 : decode cX10_init 184 = .ok (.putfield 70, 3) := by decide +kernel
theorem dX10_init_187 : decode cX10_init 187 = .ok (.aload_n 0, 1) := by decide +kernel
theorem dX10_init_188 : decode cX10_init 188 = .ok (.sipush 9000, 3) := by decide +kernel
theorem dX10_init_191 : decode cX10_init 191 = .ok (.newarray .int, 2) := by decide +kernel
theorem dX10_init_193 : decode cX10_init 193 = .ok (.putfield 73, 3) := by decide +kernel
theorem dX10_init_196 : decode cX10_init 196 = .ok (.aload_n 0, 1) := by decide +kernel
theorem dX10_init_197 : decode cX10_init 197 = .ok (.bipush 80, 2) := by decide +kernel
theorem dX10_init_199 : decode cX10_init 199 = .ok (.newarray .int, 2) := by decide +kernel
theorem dX10_init_201 : decode cX10_init 201 = .ok (.putfield 76, 3) := by decide +kernel
theorem dX10_init_204 : decode cX10_init 204 = .ok (.aload_n 0, 1) := by decide +kernel
theorem dX10_init_205 : decode cX10_init 205 = .ok (.bipush 80, 2) := by decide +kernel
theorem dX10_init_207 : decode cX10_init 207 = .ok (.newarray .int, 2) := by decide +kernel
theorem dX10_init_209 : decode cX10_init 209 = .ok (.putfield 79, 3) := by decide +kernel
theorem dX10_init_212 : decode cX10_init 212 = .ok (.aload_n 0, 1) := by decide +kernel
theorem dX10_init_213 : decode cX10_init 213 = .ok (.sipush 3000, 3) := by decide +kernel
theorem dX10_init_216 : decode cX10_init 216 = .ok (.newarray .int, 2) := by decide +kernel
theorem dX10_init_218 : decode cX10_init 218 = .ok (.putfield 82, 3) := by decide +kernel
theorem dX10_init_221 : decode cX10_init 221 = .ok (.aload_n 0, 1) := by decide +kernel
theorem dX10_init_222 : decode cX10_init 222 = .ok (.sipush 300, 3) := by decide +kernel
theorem dX10_init_225 : decode cX10_init 225 = .ok (.newarray .int, 2) := by decide +kernel
theorem dX10_init_227 : decode cX10_init 227 = .ok (.putfield 85, 3) := by decide +kernel
theorem dX10_init_230 : decode cX10_init 230 = .ok (.aload_n 0, 1) := by decide +kernel
theorem dX10_init_231 : decode cX10_init 231 = .ok (.sipush 300, 3) := by decide +kernel
theorem dX10_init_234 : decode cX10_init 234 = .ok (.newarray .int, 2) := by decide +kernel
theorem dX10_init_236 : decode cX10_init 236 = .ok (.putfield 88, 3) := by decide +kernel
theorem dX10_init_239 : decode cX10_init 239 = .ok (.aload_n 0, 1) := by decide +kernel
theorem dX10_init_240 : decode cX10_init 240 = .ok (.sipush 300, 3) := by decide +kernel
theorem dX10_init_243 : decode cX10_init 243 = .ok (.newarray .int, 2) := by decide +kernel
theorem dX10_init_245 : decode cX10_init 245 = .ok (.putfield 91, 3) := by decide +kernel
theorem dX10_init_248 : decode cX10_init 248 = .ok (.aload_n 0, 1) := by decide +kernel
theorem dX10_init_249 : decode cX10_init 249 = .ok (.sipush 300, 3) := by decide +kernel
theorem dX10_init_252 : decode cX10_init 252 = .ok (.newarray .int, 2) := by decide +kernel
theorem dX10_init_254 : decode cX10_init 254 = .ok (.putfield 94, 3) := by decide +kernel
theorem dX10_init_257 : decode cX10_init 257 = .ok (.aload_n 0, 1) := by decide +kernel
theorem dX10_init_258 : decode cX10_init 258 = .ok (.sipush 2000, 3) := by decide +kernel
theorem dX10_init_261 : decode cX10_init 261 = .ok (.newarray .int, 2) := by decide +kernel
theorem dX10_init_263 : decode cX10_init 263 = .ok (.putfield 97, 3) := by decide +kernel
theorem dX10_init_266 : decode cX10_init 266 = .ok (.aload_n 0, 1) := by decide +kernel
theorem dX10_init_267 : decode cX10_init 267 = .ok (.sipush 2000, 3) := by decide +kernel
theorem dX10_init_270 : decode cX10_init 270 = .ok (.newarray .int, 2) := by decide +kernel
theorem dX10_init_272 : decode cX10_init 272 = .ok (.putfield 100, 3) := by decide +kernel
theorem dX10_init_275 : decode cX10_init 275 = .ok (.aload_n 0, 1) := by decide +kernel
theorem dX10_init_276 : decode cX10_init 276 = .ok (.sipush 2000, 3) := by decide +kernel
theorem dX10_init_279 : decode cX10_init 279 = .ok (.newarray .int, 2) := by decide +kernel
theorem dX10_init_281 : decode cX10_init 281 = .ok (.putfield 103, 3) := by decide +kernel
theorem dX10_init_284 : decode cX10_init 284 = .ok (.aload_n 0, 1) := by decide +kernel
theorem dX10_init_285 : decode cX10_init 285 = .ok (.sipush 3000, 3) := by decide +kernel
theorem dX10_init_288 : decode cX10_init 288 = .ok (.newarray .int, 2) := by decide +kernel
theorem dX10_init_290 : decode cX10_init 290 = .ok (.putfield 106, 3) := by decide +kernel
theorem dX10_init_293 : decode cX10_init 293 = .ok (.aload_n 0, 1) := by decide +kernel
theorem dX10_init_294 : decode cX10_init 294 = .ok (.sipush 3000, 3) := by decide +kernel
theorem dX10_init_297 : decode cX10_init 297 = .ok (.newarray .int, 2) := by decide +kernel
theorem dX10_init_299 : decode cX10_init 299 = .ok (.putfield 109, 3) := by decide +kernel
theorem dX10_init_302 : decode cX10_init 302 = .ok (.aload_n 0, 1) := by decide +kernel
theorem dX10_init_303 : decode cX10_init 303 = .ok (.bipush 10, 2) := by decide +kernel
theorem dX10_init_305 : decode cX10_init 305 = .ok (.newarray .int, 2) := by decide +kernel
theorem dX10_init_307 : decode cX10_init 307 = .ok (.putfield 112, 3) := by decide +kernel
theorem dX10_init_310 : decode cX10_init 310 = .ok (.aload_n 0, 1) := by decide +kernel
theorem dX10_init_311 : decode cX10_init 311 = .ok (.bipush 10, 2) := by decide +kernel
theorem dX10_init_313 : decode cX10_init 313 = .ok (.newarray .int, 2) := by decide +kernel
theorem dX10_init_315 : decode cX10_init 315 = .ok (.putfield 115, 3) := by decide +kernel
theorem dX10_init_318 : decode cX10_init 318 = .ok (.aload_n 0, 1) := by decide +kernel
theorem dX10_init_319 : decode cX10_init 319 = .ok (.bipush 10, 2) := by decide +kernel
theorem dX10_init_321 : decode cX10_init 321 = .ok (.newarray .int, 2) := by decide +kernel
theorem dX10_init_323 : decode cX10_init 323 = .ok (.putfield 118, 3) := by decide +kernel
theorem dX10_init_326 : decode cX10_init 326 = .ok (.aload_n 0, 1) := by decide +kernel
theorem dX10_init_327 : decode cX10_init 327 = .ok (.bipush 116, 2) := by decide +kernel
theorem dX10_init_329 : decode cX10_init 329 = .ok (.newarray .int, 2) := by decide +kernel
theorem dX10_init_331 : decode cX10_init 331 = .ok (.putfield 121, 3) := by decide +kernel
theorem dX10_init_334 : decode cX10_init 334 = .ok (.aload_n 0, 1) := by decide +kernel
theorem dX10_init_335 : decode cX10_init 335 = .ok (.bipush 116, 2) := by decide +kernel
theorem dX10_init_337 : decode cX10_init 337 = .ok (.newarray .int, 2) := by decide +kernel
theorem dX10_init_339 : decode cX10_init 339 = .ok (.putfield 124, 3) := by decide +kernel
theorem dX10_init_342 : decode cX10_init 342 = .ok (.return_, 1) := by decide +kernel
theorem dX10_in_0 : decode cX10_in 0 = .ok (.iload_n 0, 1) := by decide +kernel
theorem dX10_in_1 : decode cX10_in 1 = .ok (.iload_n 1, 1) := by decide +kernel
theorem dX10_in_2 : decode cX10_in 2 = .ok (.if_icmp .lt 12, 3) := by decide +kernel
theorem dX10_in_5 : decode cX10_in 5 = .ok (.iload_n 0, 1) := by decide +kernel
theorem dX10_in_6 : decode cX10_in 6 = .ok (.iload_n 2, 1) := by decide +kernel
theorem dX10_in_7 : decode cX10_in 7 = .ok (.if_icmp .gt 7, 3) := by decide +kernel
theorem dX10_in_10 : decode cX10_in 10 = .ok (.iconst 1, 1) := by decide +kernel
theorem dX10_in_11 : decode cX10_in 11 = .ok (.goto 4, 3) := by decide +kernel
theorem dX10_in_14 : decode cX10_in 14 = .ok (.iconst 0, 1) := by decide +kernel
theorem dX10_in_15 : decode cX10_in 15 = .ok (.ireturn, 1) := by decide +kernel
set_option maxRecDepth 20000 in
theorem ggX10_isAct_X10_in : GoodIn wsX10_isAct wsX10_in := goodIn_r _ [5] (by decide +kernel) (by decide +kernel)
set_option maxRecDepth 20000 in
theorem gX10_isAct_X10_in : GoodIn wsX10_isAct (va_wsS RX10 131 yX10_in wsX10_in) := goodIn_app (goodIn_of _ (by decide +kernel)) ggX10_isAct_X10_in
theorem dX10_isAct_0 : decode cX10_isAct 0 = .ok (.iload_n 1, 1) := by decide +kernel
theorem dX10_isAct_1 : decode cX10_isAct 1 = .ok (.iconst 0, 1) := by decide +kernel
theorem dX10_isAct_2 : decode cX10_isAct 2 = .ok (.aload_n 0, 1) := by decide +kernel
theorem dX10_isAct_3 : decode cX10_isAct 3 = .ok (.getfield 127, 3) := by decide +kernel
theorem dX10_isAct_6 : decode cX10_isAct 6 = .ok (.iconst 1, 1) := by decide +kernel
theorem dX10_isAct_7 : decode cX10_isAct 7 = .ok (.isub, 1) := by decide +kernel
theorem dX10_isAct_8 : decode cX10_isAct 8 = .ok (.invokestatic 131, 3) := by decide +kernel
theorem dX10_isAct_11 : decode cX10_isAct 11 = .ok (.ireturn, 1) := by decide +kernel
set_option maxRecDepth 20000 in
theorem ggX10_portsOf_X10_in : GoodIn wsX10_portsOf wsX10_in := goodIn_r _ [4] (by decide +kernel) (by decide +kernel)
set_option maxRecDepth 20000 in
theorem gX10_portsOf_X10_in : GoodIn wsX10_portsOf (va_wsS RX10 131 yX10_in wsX10_in) := goodIn_app (goodIn_of _ (by decide +kernel)) ggX10_portsOf_X10_in
theorem dX10_portsOf_0 : decode cX10_portsOf 0 = .ok (.iload_n 0, 1) := by decide +kernel
theorem dX10_portsOf_1 : decode cX10_portsOf 1 = .ok (.bipush 14, 2) := by decide +kernel
theorem dX10_portsOf_3 : decode cX10_portsOf 3 = .ok (.if_icmp .ne 5, 3) := by decide +kernel
theorem dX10_portsOf_6 : decode cX10_portsOf 6 = .ok (.iload_n 1, 1) := by decide +kernel
theorem dX10_portsOf_7 : decode cX10_portsOf 7 = .ok (.ireturn, 1) := by decide +kernel
theorem dX10_portsOf_8 : decode cX10_portsOf 8 = .ok (.iload_n 0, 1) := by decide +kernel
theorem dX10_portsOf_9 : decode cX10_portsOf 9 = .ok (.bipush 19, 2) := by decide +kernel
theorem dX10_portsOf_11 : decode cX10_portsOf 11 = .ok (.if_icmp .ne 5, 3) := by decide +kernel
theorem dX10_portsOf_14 : decode cX10_portsOf 14 = .ok (.iconst 3, 1) := by decide +kernel
theorem dX10_portsOf_15 : decode cX10_portsOf 15 = .ok (.ireturn, 1) := by decide +kernel
theorem dX10_portsOf_16 : decode cX10_portsOf 16 = .ok (.iload_n 0, 1) := by decide +kernel
theorem dX10_portsOf_17 : decode cX10_portsOf 17 = .ok (.iconst 2, 1) := by decide +kernel
theorem dX10_portsOf_18 : decode cX10_portsOf 18 = .ok (.bipush 8, 2) := by decide +kernel
theorem dX10_portsOf_20 : decode cX10_portsOf 20 = .ok (.invokestatic 131, 3) := by decide +kernel
theorem dX10_portsOf_23 : decode cX10_portsOf 23 = .ok (.ifCond .ne 15, 3) := by decide +kernel
theorem dX10_portsOf_26 : decode cX10_portsOf 26 = .ok (.iload_n 0, 1) := by decide +kernel
theorem dX10_portsOf_27 : decode cX10_portsOf 27 = .ok (.bipush 10, 2) := by decide +kernel
theorem dX10_portsOf_29 : decode cX10_portsOf 29 = .ok (.if_icmp .eq 9, 3) := by decide +kernel
theorem dX10_portsOf_32 : decode cX10_portsOf 32 = .ok (.iload_n 0, 1) := by decide +kernel
theorem dX10_portsOf_33 : decode cX10_portsOf 33 = .ok (.bipush 18, 2) := by decide +kernel
theorem dX10_portsOf_35 : decode cX10_portsOf 35 = .ok (.if_icmp .ne 7, 3) := by decide +kernel
theorem dX10_portsOf_38 : decode cX10_portsOf 38 = .ok (.iconst 2, 1) := by decide +kernel
theorem dX10_portsOf_39 : decode cX10_portsOf 39 = .ok (.goto 4, 3) := by decide +kernel
theorem dX10_portsOf_42 : decode cX10_portsOf 42 = .ok (.iconst 1, 1) := by decide +kernel
theorem dX10_portsOf_43 : decode cX10_portsOf 43 = .ok (.ireturn, 1) := by decide +kernel
set_option maxRecDepth 20000 in
theorem ggX10_act_X10_in : GoodIn wsX10_act wsX10_in := goodIn_r _ [8] (by decide +kernel) (by decide +kernel)
set_option maxRecDepth 20000 in
theorem gX10_act_X10_in : GoodIn wsX10_act (va_wsS RX10 131 yX10_in wsX10_in) := goodIn_app (goodIn_of _ (by decide +kernel)) ggX10_act_X10_in
set_option maxRecDepth 20000 in
theorem ggX10_act_X10_portsOf : GoodIn wsX10_act wsX10_portsOf := goodIn_r _ [11, 5, 6, 7, 8] (by decide +kernel) (by decide +kernel)
set_option maxRecDepth 20000 in
theorem gX10_act_X10_portsOf : GoodIn wsX10_act (va_wsS RX10 135 yX10_portsOf wsX10_portsOf) := goodIn_app (goodIn_of _ (by decide +kernel)) ggX10_act_X10_portsOf
theorem dX10_act_0 : decode cX10_act 0 = .ok (.iload_n 1, 1) := by decide +kernel
theorem dX10_act_1 : decode cX10_act 1 = .ok (.iconst 0, 1) := by decide +kernel
theorem dX10_act_2 : decode cX10_act 2 = .ok (.bipush 21, 2) := by decide +kernel
theorem dX10_act_4 : decode cX10_act 4 = .ok (.invokestatic 131, 3) := by decide +kernel
theorem dX10_act_7 : decode cX10_act 7 = .ok (.ifCond .eq 12, 3) := by decide +kernel
theorem dX10_act_10 : decode cX10_act 10 = .ok (.aload_n 0, 1) := by decide +kernel
theorem dX10_act_11 : decode cX10_act 11 = .ok (.getfield 127, 3) := by decide +kernel
theorem dX10_act_14 : decode cX10_act 14 = .ok (.bipush 80, 2) := by decide +kernel
theorem dX10_act_16 : decode cX10_act 16 = .ok (.if_icmp .ne 5, 3) := by decide +kernel
theorem dX10_act_19 : decode cX10_act 19 = .ok (.iconst (-1), 1) := by decide +kernel
theorem dX10_act_20 : decode cX10_act 20 = .ok (.ireturn, 1) := by decide +kernel
theorem dX10_act_21 : decode cX10_act 21 = .ok (.iload_n 1, 1) := by decide +kernel
theorem dX10_act_22 : decode cX10_act 22 = .ok (.bipush 11, 2) := by decide +kernel
theorem dX10_act_24 : decode cX10_act 24 = .ok (.bipush 14, 2) := by decide +kernel
theorem dX10_act_26 : decode cX10_act 26 = .ok (.invokestatic 131, 3) := by decide +kernel
theorem dX10_act_29 : decode cX10_act 29 = .ok (.ifCond .ne 9, 3) := by decide +kernel
theorem dX10_act_32 : decode cX10_act 32 = .ok (.iload_n 1, 1) := by decide +kernel
theorem dX10_act_33 : decode cX10_act 33 = .ok (.bipush 21, 2) := by decide +kernel
theorem dX10_act_35 : decode cX10_act 35 = .ok (.if_icmp .ne 15, 3) := by decide +kernel
theorem dX10_act_38 : decode cX10_act 38 = .ok (.iload_n 2, 1) := by decide +kernel
theorem dX10_act_39 : decode cX10_act 39 = .ok (.iconst 0, 1) := by decide +kernel
theorem dX10_act_40 : decode cX10_act 40 = .ok (.bipush 9, 2) := by decide +kernel
theorem dX10_act_42 : decode cX10_act 42 = .ok (.invokestatic 131, 3) := by decide +kernel
theorem dX10_act_45 : decode cX10_act 45 = .ok (.ifCond .ne 5, 3) := by decide +kernel
theorem dX10_act_48 : decode cX10_act 48 = .ok (.iconst (-1), 1) := by decide +kernel
theorem dX10_act_49 : decode cX10_act 49 = .ok (.ireturn, 1) := by decide +kernel
theorem dX10_act_50 : decode cX10_act 50 = .ok (.iload_n 1, 1) := by decide +kernel
theorem dX10_act_51 : decode cX10_act 51 = .ok (.bipush 15, 2) := by decide +kernel
theorem dX10_act_53 : decode cX10_act 53 = .ok (.if_icmp .ne 23, 3) := by decide +kernel
theorem dX10_act_56 : decode cX10_act 56 = .ok (.iload_n 2, 1) := by decide +kernel
theorem dX10_act_57 : decode cX10_act 57 = .ok (.iconst 0, 1) := by decide +kernel
theorem dX10_act_58 : decode cX10_act 58 = .ok (.bipush 99, 2) := by decide +kernel
theorem dX10_act_60 : decode cX10_act 60 = .ok (.invokestatic 131, 3) := by decide +kernel
theorem dX10_act_63 : decode cX10_act 63 = .ok (.ifCond .eq 11, 3) := by decide +kernel
theorem dX10_act_66 : decode cX10_act 66 = .ok (.iload_n 2, 1) := by decide +kernel
theorem dX10_act_67 : decode cX10_act 67 = .ok (.bipush 10, 2) := by decide +kernel
theorem dX10_act_69 : decode cX10_act 69 = .ok (.irem, 1) := by decide +kernel
theorem dX10_act_70 : decode cX10_act 70 = .ok (.iconst 2, 1) := by decide +kernel
theorem dX10_act_71 : decode cX10_act 71 = .ok (.if_icmp .le 5, 3) := by decide +kernel
theorem dX10_act_74 : decode cX10_act 74 = .ok (.iconst (-1), 1) := by decide +kernel
theorem dX10_act_75 : decode cX10_act 75 = .ok (.ireturn, 1) := by decide +kernel
theorem dX10_act_76 : decode cX10_act 76 = .ok (.iload_n 1, 1) := by decide +kernel
theorem dX10_act_77 : decode cX10_act 77 = .ok (.bipush 14, 2) := by decide +kernel
theorem dX10_act_79 : decode cX10_act 79 = .ok (.if_icmp .ne 14, 3) := by decide +kernel
theorem dX10_act_82 : decode cX10_act 82 = .ok (.iload_n 3, 1) := by decide +kernel
theorem dX10_act_83 : decode cX10_act 83 = .ok (.iconst 1, 1) := by decide +kernel
theorem dX10_act_84 : decode cX10_act 84 = .ok (.iconst 3, 1) := by decide +kernel
theorem dX10_act_85 : decode cX10_act 85 = .ok (.invokestatic 131, 3) := by decide +kernel
theorem dX10_act_88 : decode cX10_act 88 = .ok (.ifCond .ne 5, 3) := by decide +kernel
theorem dX10_act_91 : decode cX10_act 91 = .ok (.iconst (-1), 1) := by decide +kernel
theorem dX10_act_92 : decode cX10_act 92 = .ok (.ireturn, 1) := by decide +kernel
theorem dX10_act_93 : decode cX10_act 93 = .ok (.aload_n 0, 1) := by decide +kernel
theorem dX10_act_94 : decode cX10_act 94 = .ok (.getfield 7, 3) := by decide +kernel
theorem dX10_act_97 : decode cX10_act 97 = .ok (.aload_n 0, 1) := by decide +kernel
theorem dX10_act_98 : decode cX10_act 98 = .ok (.getfield 127, 3) := by decide +kernel
theorem dX10_act_101 : decode cX10_act 101 = .ok (.iload_n 1, 1) := by decide +kernel
theorem dX10_act_102 : decode cX10_act 102 = .ok (.iastore, 1) := by decide +kernel
theorem dX10_act_103 : decode cX10_act 103 = .ok (.aload_n 0, 1) := by decide +kernel
theorem dX10_act_104 : decode cX10_act 104 = .ok (.getfield 13, 3) := by decide +kernel
theorem dX10_act_107 : decode cX10_act 107 = .ok (.aload_n 0, 1) := by decide +kernel
theorem dX10_act_108 : decode cX10_act 108 = .ok (.getfield 127, 3) := by decide +kernel
theorem dX10_act_111 : decode cX10_act 111 = .ok (.iload_n 2, 1) := by decide +kernel
theorem dX10_act_112 : decode cX10_act 112 = .ok (.iastore, 1) := by decide +kernel
theorem dX10_act_113 : decode cX10_act 113 = .ok (.aload_n 0, 1) := by decide +kernel
theorem dX10_act_114 : decode cX10_act 114 = .ok (.getfield 16, 3) := by decide +kernel
theorem dX10_act_117 : decode cX10_act 117 = .ok (.aload_n 0, 1) := by decide +kernel
theorem dX10_act_118 : decode cX10_act 118 = .ok (.getfield 127, 3) := by decide +kernel
theorem dX10_act_121 : decode cX10_act 121 = .ok (.iload_n 1, 1) := by decide +kernel
theorem dX10_act_122 : decode cX10_act 122 = .ok (.iload_n 3, 1) := by decide +kernel
theorem dX10_act_123 : decode cX10_act 123 = .ok (.invokestatic 135, 3) := by decide +kernel
theorem dX10_act_126 : decode cX10_act 126 = .ok (.iastore, 1) := by decide +kernel
theorem dX10_act_127 : decode cX10_act 127 = .ok (.aload_n 0, 1) := by decide +kernel
theorem dX10_act_128 : decode cX10_act 128 = .ok (.dup, 1) := by decide +kernel
theorem dX10_act_129 : decode cX10_act 129 = .ok (.getfield 127, 3) := by decide +kernel
theorem dX10_act_132 : decode cX10_act 132 = .ok (.iconst 1, 1) := by decide +kernel
theorem dX10_act_133 : decode cX10_act 133 = .ok (.iadd, 1) := by decide +kernel
theorem dX10_act_134 : decode cX10_act 134 = .ok (.putfield 127, 3) := by decide +kernel
theorem dX10_act_137 : decode cX10_act 137 = .ok (.aload_n 0, 1) := by decide +kernel
theorem dX10_act_138 : decode cX10_act 138 = .ok (.getfield 127, 3) := by decide +kernel
theorem dX10_act_141 : decode cX10_act 141 = .ok (.iconst 1, 1) := by decide +kernel
theorem dX10_act_142 : decode cX10_act 142 = .ok (.isub, 1) := by decide +kernel
theorem dX10_act_143 : decode cX10_act 143 = .ok (.ireturn, 1) := by decide +kernel
set_option maxRecDepth 20000 in
theorem ggX10_way_X10_isAct : GoodIn wsX10_way wsX10_isAct := goodIn_r _ [12, 13, 14, 15, 11, 16, 17, 18, 19, 20, 21, 22, 23, 24, 25, 26, 27, 28, 29, 30, 31, 32, 33, 34, 35, 36, 37, 38, 39, 40, 41, 42, 43, 44, 45, 46, 47, 48, 49, 50, 51, 52, 53, 54, 55, 56, 57, 58, 59, 60, 61, 62, 63, 64, 65, 66, 67, 68, 69, 70, 71, 72, 73] (by decide +kernel) (by decide +kernel)
set_option maxRecDepth 20000 in
theorem gX10_way_X10_isAct : GoodIn wsX10_way (wsV RX10 139 RX10 yX10_isAct wsX10_isAct) := goodIn_app (goodIn_of _ (by decide +kernel)) ggX10_way_X10_isAct
set_option maxRecDepth 20000 in
theorem ggX10_way_X10_in : GoodIn wsX10_way wsX10_in := goodIn_r _ [16] (by decide +kernel) (by decide +kernel)
set_option maxRecDepth 20000 in
theorem gX10_way_X10_in : GoodIn wsX10_way (va_wsS RX10 131 yX10_in wsX10_in) := goodIn_app (goodIn_of _ (by decide +kernel)) ggX10_way_X10_in
theorem dX10_way_0 : decode cX10_way 0 = .ok (.aload_n 0, 1) := by decide +kernel
theorem dX10_way_1 : decode cX10_way 1 = .ok (.iload_n 1, 1) := by decide +kernel
theorem dX10_way_2 : decode cX10_way 2 = .ok (.invokevirtual 139, 3) := by decide +kernel
theorem dX10_way_5 : decode cX10_way 5 = .ok (.ifCond .eq 62, 3) := by decide +kernel
theorem dX10_way_8 : decode cX10_way 8 = .ok (.aload_n 0, 1) := by decide +kernel
theorem dX10_way_9 : decode cX10_way 9 = .ok (.iload_n 3, 1) := by decide +kernel
theorem dX10_way_10 : decode cX10_way 10 = .ok (.invokevirtual 139, 3) := by decide +kernel
theorem dX10_way_13 : decode cX10_way 13 = .ok (.ifCond .eq 54, 3) := by decide +kernel
theorem dX10_way_16 : decode cX10_way 16 = .ok (.iload_n 2, 1) := by decide +kernel
theorem dX10_way_17 : decode cX10_way 17 = .ok (.iconst 0, 1) := by decide +kernel
theorem dX10_way_18 : decode cX10_way 18 = .ok (.aload_n 0, 1) := by decide +kernel
theorem dX10_way_19 : decode cX10_way 19 = .ok (.getfield 7, 3) := by decide +kernel
theorem dX10_way_22 : decode cX10_way 22 = .ok (.iload_n 1, 1) := by decide +kernel
theorem dX10_way_23 : decode cX10_way 23 = .ok (.iaload, 1) := by decide +kernel
theorem dX10_way_24 : decode cX10_way 24 = .ok (.bipush 10, 2) := by decide +kernel
theorem dX10_way_26 : decode cX10_way 26 = .ok (.if_icmp .ne 7, 3) := by decide +kernel
theorem dX10_way_29 : decode cX10_way 29 = .ok (.iconst 1, 1) := by decide +kernel
theorem dX10_way_30 : decode cX10_way 30 = .ok (.goto 4, 3) := by decide +kernel
theorem dX10_way_33 : decode cX10_way 33 = .ok (.iconst 0, 1) := by decide +kernel
theorem dX10_way_34 : decode cX10_way 34 = .ok (.invokestatic 131, 3) := by decide +kernel
theorem dX10_way_37 : decode cX10_way 37 = .ok (.ifCond .eq 30, 3) := by decide +kernel
theorem dX10_way_40 : decode cX10_way 40 = .ok (.iload 4, 2) := by decide +kernel
theorem dX10_way_42 : decode cX10_way 42 = .ok (.iconst 0, 1) := by decide +kernel
theorem dX10_way_43 : decode cX10_way 43 = .ok (.aload_n 0, 1) := by decide +kernel
theorem dX10_way_44 : decode cX10_way 44 = .ok (.getfield 16, 3) := by decide +kernel
theorem dX10_way_47 : decode cX10_way 47 = .ok (.iload_n 3, 1) := by decide +kernel
theorem dX10_way_48 : decode cX10_way 48 = .ok (.iaload, 1) := by decide +kernel
theorem dX10_way_49 : decode cX10_way 49 = .ok (.iconst 1, 1) := by decide +kernel
theorem dX10_way_50 : decode cX10_way 50 = .ok (.isub, 1) := by decide +kernel
theorem dX10_way_51 : decode cX10_way 51 = .ok (.invokestatic 131, 3) := by decide +kernel
theorem dX10_way_54 : decode cX10_way 54 = .ok (.ifCond .eq 13, 3) := by decide +kernel
theorem dX10_way_57 : decode cX10_way 57 = .ok (.aload_n 0, 1) := by decide +kernel
theorem dX10_way_58 : decode cX10_way 58 = .ok (.getfield 143, 3) := by decide +kernel
theorem dX10_way_61 : decode cX10_way 61 = .ok (.sipush 300, 3) := by decide +kernel
theorem dX10_way_64 : decode cX10_way 64 = .ok (.if_icmp .ne 5, 3) := by decide +kernel
theorem dX10_way_67 : decode cX10_way 67 = .ok (.iconst (-1), 1) := by decide +kernel
theorem dX10_way_68 : decode cX10_way 68 = .ok (.ireturn, 1) := by decide +kernel
theorem dX10_way_69 : decode cX10_way 69 = .ok (.aload_n 0, 1) := by decide +kernel
theorem dX10_way_70 : decode cX10_way 70 = .ok (.getfield 19, 3) := by decide +kernel
theorem dX10_way_73 : decode cX10_way 73 = .ok (.aload_n 0, 1) := by decide +kernel
theorem dX10_way_74 : decode cX10_way 74 = .ok (.getfield 143, 3) := by decide +kernel
theorem dX10_way_77 : decode cX10_way 77 = .ok (.iload_n 1, 1) := by decide +kernel
theorem dX10_way_78 : decode cX10_way 78 = .ok (.iastore, 1) := by decide +kernel
theorem dX10_way_79 : decode cX10_way 79 = .ok (.aload_n 0, 1) := by decide +kernel
theorem dX10_way_80 : decode cX10_way 80 = .ok (.getfield 22, 3) := by decide +kernel
theorem dX10_way_83 : decode cX10_way 83 = .ok (.aload_n 0, 1) := by decide +kernel
theorem dX10_way_84 : decode cX10_way 84 = .ok (.getfield 143, 3) := by decide +kernel
theorem dX10_way_87 : decode cX10_way 87 = .ok (.iload_n 2, 1) := by decide +kernel
theorem dX10_way_88 : decode cX10_way 88 = .ok (.iastore, 1) := by decide +kernel
theorem dX10_way_89 : decode cX10_way 89 = .ok (.aload_n 0, 1) := by decide +kernel
theorem dX10_way_90 : decode cX10_way 90 = .ok (.getfield 25, 3) := by decide +kernel
theorem dX10_way_93 : decode cX10_way 93 = .ok (.aload_n 0, 1) := by decide +kernel
theorem dX10_way_94 : decode cX10_way 94 = .ok (.getfield 143, 3) := by decide +kernel
theorem dX10_way_97 : decode cX10_way 97 = .ok (.iload_n 3, 1) := by decide +kernel
theorem dX10_way_98 : decode cX10_way 98 = .ok (.iastore, 1) := by decide +kernel
theorem dX10_way_99 : decode cX10_way 99 = .ok (.aload_n 0, 1) := by decide +kernel
theorem dX10_way_100 : decode cX10_way 100 = .ok (.getfield 28, 3) := by decide +kernel
theorem dX10_way_103 : decode cX10_way 103 = .ok (.aload_n 0, 1) := by decide +kernel
theorem dX10_way_104 : decode cX10_way 104 = .ok (.getfield 143, 3) := by decide +kernel
theorem dX10_way_107 : decode cX10_way 107 = .ok (.iload 4, 2) := by decide +kernel
theorem dX10_way_109 : decode cX10_way 109 = .ok (.iastore, 1) := by decide +kernel
theorem dX10_way_110 : decode cX10_way 110 = .ok (.aload_n 0, 1) := by decide +kernel
theorem dX10_way_111 : decode cX10_way 111 = .ok (.dup, 1) := by decide +kernel
theorem dX10_way_112 : decode cX10_way 112 = .ok (.getfield 143, 3) := by decide +kernel
theorem dX10_way_115 : decode cX10_way 115 = .ok (.iconst 1, 1) := by decide +kernel
theorem dX10_way_116 : decode cX10_way 116 = .ok (.iadd, 1) := by decide +kernel
theorem dX10_way_117 : decode cX10_way 117 = .ok (.putfield 143, 3) := by decide +kernel
theorem dX10_way_120 : decode cX10_way 120 = .ok (.aload_n 0, 1) := by decide +kernel
theorem dX10_way_121 : decode cX10_way 121 = .ok (.getfield 143, 3) := by decide +kernel
theorem dX10_way_124 : decode cX10_way 124 = .ok (.iconst 1, 1) := by decide +kernel
theorem dX10_way_125 : decode cX10_way 125 = .ok (.isub, 1) := by decide +kernel
theorem dX10_way_126 : decode cX10_way 126 = .ok (.ireturn, 1) := by decide +kernel
set_option maxRecDepth 20000 in
theorem ggX10_token_X10_isAct : GoodIn wsX10_token wsX10_isAct := goodIn_r _ [10, 11, 12, 13, 9, 14, 15, 16, 17, 18, 19, 20, 21, 22, 23, 24, 25, 26, 27, 28, 29, 30, 31, 32, 33, 34, 35, 36, 37, 38, 39, 40, 41, 42, 43, 44, 45, 46, 47, 48, 49, 50, 51, 52, 53, 54, 55, 56, 57, 58, 59, 60, 61, 62, 63, 64, 65, 66, 67, 68, 69, 70, 71] (by decide +kernel) (by decide +kernel)
set_option maxRecDepth 20000 in
theorem gX10_token_X10_isAct : GoodIn wsX10_token (wsV RX10 139 RX10 yX10_isAct wsX10_isAct) := goodIn_app (goodIn_of _ (by decide +kernel)) ggX10_token_X10_isAct
set_option maxRecDepth 20000 in
theorem ggX10_token_X10_in : GoodIn wsX10_token wsX10_in := goodIn_r _ [14] (by decide +kernel) (by decide +kernel)
set_option maxRecDepth 20000 in
theorem gX10_token_X10_in : GoodIn wsX10_token (va_wsS RX10 131 yX10_in wsX10_in) := goodIn_app (goodIn_of _ (by decide +kernel)) ggX10_token_X10_in
theorem dX10_token_0 : decode cX10_token 0 = .ok (.aload_n 0, 1) := by decide +kernel
theorem dX10_token_1 : decode cX10_token 1 = .ok (.iload_n 1, 1) := by decide +kernel
theorem dX10_token_2 : decode cX10_token 2 = .ok (.invokevirtual 139, 3) := by decide +kernel
theorem dX10_token_5 : decode cX10_token 5 = .ok (.ifCond .eq 28, 3) := by decide +kernel
theorem dX10_token_8 : decode cX10_token 8 = .ok (.iload_n 2, 1) := by decide +kernel
theorem dX10_token_9 : decode cX10_token 9 = .ok (.iconst 0, 1) := by decide +kernel
theorem dX10_token_10 : decode cX10_token 10 = .ok (.aload_n 0, 1) := by decide +kernel
theorem dX10_token_11 : decode cX10_token 11 = .ok (.getfield 16, 3) := by decide +kernel
theorem dX10_token_14 : decode cX10_token 14 = .ok (.iload_n 1, 1) := by decide +kernel
theorem dX10_token_15 : decode cX10_token 15 = .ok (.iaload, 1) := by decide +kernel
theorem dX10_token_16 : decode cX10_token 16 = .ok (.iconst 1, 1) := by decide +kernel
theorem dX10_token_17 : decode cX10_token 17 = .ok (.isub, 1) := by decide +kernel
theorem dX10_token_18 : decode cX10_token 18 = .ok (.invokestatic 131, 3) := by decide +kernel
theorem dX10_token_21 : decode cX10_token 21 = .ok (.ifCond .eq 12, 3) := by decide +kernel
theorem dX10_token_24 : decode cX10_token 24 = .ok (.aload_n 0, 1) := by decide +kernel
theorem dX10_token_25 : decode cX10_token 25 = .ok (.getfield 146, 3) := by decide +kernel
theorem dX10_token_28 : decode cX10_token 28 = .ok (.bipush 40, 2) := by decide +kernel
theorem dX10_token_30 : decode cX10_token 30 = .ok (.if_icmp .ne 5, 3) := by decide +kernel
theorem dX10_token_33 : decode cX10_token 33 = .ok (.iconst (-1), 1) := by decide +kernel
theorem dX10_token_34 : decode cX10_token 34 = .ok (.ireturn, 1) := by decide +kernel
theorem dX10_token_35 : decode cX10_token 35 = .ok (.aload_n 0, 1) := by decide +kernel
theorem dX10_token_36 : decode cX10_token 36 = .ok (.getfield 31, 3) := by decide +kernel
theorem dX10_token_39 : decode cX10_token 39 = .ok (.aload_n 0, 1) := by decide +kernel
theorem dX10_token_40 : decode cX10_token 40 = .ok (.getfield 146, 3) := by decide +kernel
theorem dX10_token_43 : decode cX10_token 43 = .ok (.iload_n 1, 1) := by decide +kernel
theorem dX10_token_44 : decode cX10_token 44 = .ok (.iastore, 1) := by decide +kernel
theorem dX10_token_45 : decode cX10_token 45 = .ok (.aload_n 0, 1) := by decide +kernel
theorem dX10_token_46 : decode cX10_token 46 = .ok (.getfield 34, 3) := by decide +kernel
theorem dX10_token_49 : decode cX10_token 49 = .ok (.aload_n 0, 1) := by decide +kernel
theorem dX10_token_50 : decode cX10_token 50 = .ok (.getfield 146, 3) := by decide +kernel
theorem dX10_token_53 : decode cX10_token 53 = .ok (.iload_n 2, 1) := by decide +kernel
theorem dX10_token_54 : decode cX10_token 54 = .ok (.iastore, 1) := by decide +kernel
theorem dX10_token_55 : decode cX10_token 55 = .ok (.aload_n 0, 1) := by decide +kernel
theorem dX10_token_56 : decode cX10_token 56 = .ok (.getfield 37, 3) := by decide +kernel
theorem dX10_token_59 : decode cX10_token 59 = .ok (.aload_n 0, 1) := by decide +kernel
theorem dX10_token_60 : decode cX10_token 60 = .ok (.getfield 146, 3) := by decide +kernel
theorem dX10_token_63 : decode cX10_token 63 = .ok (.iload_n 3, 1) := by decide +kernel
theorem dX10_token_64 : decode cX10_token 64 = .ok (.iastore, 1) := by decide +kernel
theorem dX10_token_65 : decode cX10_token 65 = .ok (.aload_n 0, 1) := by decide +kernel
theorem dX10_token_66 : decode cX10_token 66 = .ok (.dup, 1) := by decide +kernel
theorem dX10_token_67 : decode cX10_token 67 = .ok (.getfield 146, 3) := by decide +kernel
theorem dX10_token_70 : decode cX10_token 70 = .ok (.iconst 1, 1) := by decide +kernel
theorem dX10_token_71 : decode cX10_token 71 = .ok (.iadd, 1) := by decide +kernel
theorem dX10_token_72 : decode cX10_token 72 = .ok (.putfield 146, 3) := by decide +kernel
theorem dX10_token_75 : decode cX10_token 75 = .ok (.aload_n 0, 1) := by decide +kernel
theorem dX10_token_76 : decode cX10_token 76 = .ok (.getfield 146, 3) := by decide +kernel
theorem dX10_token_79 : decode cX10_token 79 = .ok (.ireturn, 1) := by decide +kernel
set_option maxRecDepth 20000 in
theorem ggX10_clear_X10_in : GoodIn wsX10_clear wsX10_in := goodIn_r _ [8] (by decide +kernel) (by decide +kernel)
set_option maxRecDepth 20000 in
theorem gX10_clear_X10_in : GoodIn wsX10_clear (va_wsS RX10 131 yX10_in wsX10_in) := goodIn_app (goodIn_of _ (by decide +kernel)) ggX10_clear_X10_in
theorem dX10_clear_0 : decode cX10_clear 0 = .ok (.iload_n 1, 1) := by decide +kernel
theorem dX10_clear_1 : decode cX10_clear 1 = .ok (.iconst 0, 1) := by decide +kernel
theorem dX10_clear_2 : decode cX10_clear 2 = .ok (.iconst 2, 1) := by decide +kernel
theorem dX10_clear_3 : decode cX10_clear 3 = .ok (.invokestatic 131, 3) := by decide +kernel
theorem dX10_clear_6 : decode cX10_clear 6 = .ok (.ifCond .ne 5, 3) := by decide +kernel
theorem dX10_clear_9 : decode cX10_clear 9 = .ok (.iconst 0, 1) := by decide +kernel
theorem dX10_clear_10 : decode cX10_clear 10 = .ok (.ireturn, 1) := by decide +kernel
theorem dX10_clear_11 : decode cX10_clear 11 = .ok (.aload_n 0, 1) := by decide +kernel
theorem dX10_clear_12 : decode cX10_clear 12 = .ok (.iconst 0, 1) := by decide +kernel
theorem dX10_clear_13 : decode cX10_clear 13 = .ok (.putfield 146, 3) := by decide +kernel
theorem dX10_clear_16 : decode cX10_clear 16 = .ok (.iload_n 1, 1) := by decide +kernel
theorem dX10_clear_17 : decode cX10_clear 17 = .ok (.ifCond .le 8, 3) := by decide +kernel
theorem dX10_clear_20 : decode cX10_clear 20 = .ok (.aload_n 0, 1) := by decide +kernel
theorem dX10_clear_21 : decode cX10_clear 21 = .ok (.iconst 0, 1) := by decide +kernel
theorem dX10_clear_22 : decode cX10_clear 22 = .ok (.putfield 143, 3) := by decide +kernel
theorem dX10_clear_25 : decode cX10_clear 25 = .ok (.iload_n 1, 1) := by decide +kernel
theorem dX10_clear_26 : decode cX10_clear 26 = .ok (.iconst 1, 1) := by decide +kernel
theorem dX10_clear_27 : decode cX10_clear 27 = .ok (.if_icmp .le 8, 3) := by decide +kernel
theorem dX10_clear_30 : decode cX10_clear 30 = .ok (.aload_n 0, 1) := by decide +kernel
theorem dX10_clear_31 : decode cX10_clear 31 = .ok (.iconst 0, 1) := by decide +kernel
theorem dX10_clear_32 : decode cX10_clear 32 = .ok (.putfield 127, 3) := by decide +kernel
theorem dX10_clear_35 : decode cX10_clear 35 = .ok (.aload_n 0, 1) := by decide +kernel
theorem dX10_clear_36 : decode cX10_clear 36 = .ok (.iconst 0, 1) := by decide +kernel
theorem dX10_clear_37 : decode cX10_clear 37 = .ok (.putfield 149, 3) := by decide +kernel
theorem dX10_clear_40 : decode cX10_clear 40 = .ok (.iconst 1, 1) := by decide +kernel
theorem dX10_clear_41 : decode cX10_clear 41 = .ok (.ireturn, 1) := by decide +kernel
theorem dX10_stops_0 : decode cX10_stops 0 = .ok (.aload_n 0, 1) := by decide +kernel
theorem dX10_stops_1 : decode cX10_stops 1 = .ok (.iload_n 1, 1) := by decide +kernel
theorem dX10_stops_2 : decode cX10_stops 2 = .ok (.putfield 153, 3) := by decide +kernel
theorem dX10_stops_5 : decode cX10_stops 5 = .ok (.aload_n 0, 1) := by decide +kernel
theorem dX10_stops_6 : decode cX10_stops 6 = .ok (.iload_n 2, 1) := by decide +kernel
theorem dX10_stops_7 : decode cX10_stops 7 = .ok (.putfield 156, 3) := by decide +kernel
theorem dX10_stops_10 : decode cX10_stops 10 = .ok (.aload_n 0, 1) := by decide +kernel
theorem dX10_stops_11 : decode cX10_stops 11 = .ok (.iconst 1, 1) := by decide +kernel
theorem dX10_stops_12 : decode cX10_stops 12 = .ok (.putfield 159, 3) := by decide +kernel
theorem dX10_stops_15 : decode cX10_stops 15 = .ok (.iconst 0, 1) := by decide +kernel
theorem dX10_stops_16 : decode cX10_stops 16 = .ok (.ireturn, 1) := by decide +kernel
set_option maxRecDepth 20000 in
theorem ggX10_colour_X10_stops : GoodIn wsX10_colour wsX10_stops := goodIn_r _ [10, 11, 12, 13, 14, 15, 16, 17, 18, 19, 20, 21, 22, 23, 24, 25, 26, 27, 28, 29, 30, 31, 32, 33, 34, 35, 36, 37, 38, 39, 40, 41, 42, 43, 44, 45, 46, 47, 48, 49, 50, 51, 52, 53, 54, 55, 56, 57, 58, 59, 60, 61, 62, 63, 64, 65, 66, 67, 68, 69, 70] (by decide +kernel) (by decide +kernel)
set_option maxRecDepth 20000 in
theorem gX10_colour_X10_stops : GoodIn wsX10_colour (wsV RX10 165 RX10 yX10_stops wsX10_stops) := goodIn_app (goodIn_of _ (by decide +kernel)) ggX10_colour_X10_stops
theorem dX10_colour_0 : decode cX10_colour 0 = .ok (.iconst 0, 1) := by decide +kernel
theorem dX10_colour_1 : decode cX10_colour 1 = .ok (.istore 5, 2) := by decide +kernel
theorem dX10_colour_3 : decode cX10_colour 3 = .ok (.iload 5, 2) := by decide +kernel
theorem dX10_colour_5 : decode cX10_colour 5 = .ok (.aload_n 0, 1) := by decide +kernel
theorem dX10_colour_6 : decode cX10_colour 6 = .ok (.getfield 162, 3) := by decide +kernel
theorem dX10_colour_9 : decode cX10_colour 9 = .ok (.if_icmp .ge 57, 3) := by decide +kernel
theorem dX10_colour_12 : decode cX10_colour 12 = .ok (.aload_n 0, 1) := by decide +kernel
theorem dX10_colour_13 : decode cX10_colour 13 = .ok (.getfield 40, 3) := by decide +kernel
theorem dX10_colour_16 : decode cX10_colour 16 = .ok (.iload 5, 2) := by decide +kernel
theorem dX10_colour_18 : decode cX10_colour 18 = .ok (.iaload, 1) := by decide +kernel
theorem dX10_colour_19 : decode cX10_colour 19 = .ok (.iload_n 1, 1) := by decide +kernel
theorem dX10_colour_20 : decode cX10_colour 20 = .ok (.if_icmp .ne 40, 3) := by decide +kernel
theorem dX10_colour_23 : decode cX10_colour 23 = .ok (.aload_n 0, 1) := by decide +kernel
theorem dX10_colour_24 : decode cX10_colour 24 = .ok (.getfield 43, 3) := by decide +kernel
theorem dX10_colour_27 : decode cX10_colour 27 = .ok (.iload 5, 2) := by decide +kernel
theorem dX10_colour_29 : decode cX10_colour 29 = .ok (.iaload, 1) := by decide +kernel
theorem dX10_colour_30 : decode cX10_colour 30 = .ok (.iload_n 2, 1) := by decide +kernel
theorem dX10_colour_31 : decode cX10_colour 31 = .ok (.if_icmp .ne 29, 3) := by decide +kernel
theorem dX10_colour_34 : decode cX10_colour 34 = .ok (.aload_n 0, 1) := by decide +kernel
theorem dX10_colour_35 : decode cX10_colour 35 = .ok (.getfield 46, 3) := by decide +kernel
theorem dX10_colour_38 : decode cX10_colour 38 = .ok (.iload 5, 2) := by decide +kernel
theorem dX10_colour_40 : decode cX10_colour 40 = .ok (.iaload, 1) := by decide +kernel
theorem dX10_colour_41 : decode cX10_colour 41 = .ok (.iload_n 3, 1) := by decide +kernel
theorem dX10_colour_42 : decode cX10_colour 42 = .ok (.if_icmp .ne 18, 3) := by decide +kernel
theorem dX10_colour_45 : decode cX10_colour 45 = .ok (.aload_n 0, 1) := by decide +kernel
theorem dX10_colour_46 : decode cX10_colour 46 = .ok (.getfield 49, 3) := by decide +kernel
theorem dX10_colour_49 : decode cX10_colour 49 = .ok (.iload 5, 2) := by decide +kernel
theorem dX10_colour_51 : decode cX10_colour 51 = .ok (.iaload, 1) := by decide +kernel
theorem dX10_colour_52 : decode cX10_colour 52 = .ok (.iload 4, 2) := by decide +kernel
theorem dX10_colour_54 : decode cX10_colour 54 = .ok (.if_icmp .ne 6, 3) := by decide +kernel
theorem dX10_colour_57 : decode cX10_colour 57 = .ok (.iload 5, 2) := by decide +kernel
theorem dX10_colour_59 : decode cX10_colour 59 = .ok (.ireturn, 1) := by decide +kernel
theorem dX10_colour_60 : decode cX10_colour 60 = .ok (.iinc 5 1, 3) := by decide +kernel
theorem dX10_colour_63 : decode cX10_colour 63 = .ok (.goto (-60), 3) := by decide +kernel
theorem dX10_colour_66 : decode cX10_colour 66 = .ok (.aload_n 0, 1) := by decide +kernel
theorem dX10_colour_67 : decode cX10_colour 67 = .ok (.getfield 162, 3) := by decide +kernel
theorem dX10_colour_70 : decode cX10_colour 70 = .ok (.sipush 600, 3) := by decide +kernel
theorem dX10_colour_73 : decode cX10_colour 73 = .ok (.if_icmp .ne 12, 3) := by decide +kernel
theorem dX10_colour_76 : decode cX10_colour 76 = .ok (.aload_n 0, 1) := by decide +kernel
theorem dX10_colour_77 : decode cX10_colour 77 = .ok (.iconst 2, 1) := by decide +kernel
theorem dX10_colour_78 : decode cX10_colour 78 = .ok (.iconst (-1), 1) := by decide +kernel
theorem dX10_colour_79 : decode cX10_colour 79 = .ok (.invokevirtual 165, 3) := by decide +kernel
theorem dX10_colour_82 : decode cX10_colour 82 = .ok (.pop, 1) := by decide +kernel
theorem dX10_colour_83 : decode cX10_colour 83 = .ok (.iconst (-1), 1) := by decide +kernel
theorem dX10_colour_84 : decode cX10_colour 84 = .ok (.ireturn, 1) := by decide +kernel
theorem dX10_colour_85 : decode cX10_colour 85 = .ok (.aload_n 0, 1) := by decide +kernel
theorem dX10_colour_86 : decode cX10_colour 86 = .ok (.getfield 40, 3) := by decide +kernel
theorem dX10_colour_89 : decode cX10_colour 89 = .ok (.aload_n 0, 1) := by decide +kernel
theorem dX10_colour_90 : decode cX10_colour 90 = .ok (.getfield 162, 3) := by decide +kernel
theorem dX10_colour_93 : decode cX10_colour 93 = .ok (.iload_n 1, 1) := by decide +kernel
theorem dX10_colour_94 : decode cX10_colour 94 = .ok (.iastore, 1) := by decide +kernel
theorem dX10_colour_95 : decode cX10_colour 95 = .ok (.aload_n 0, 1) := by decide +kernel
theorem dX10_colour_96 : decode cX10_colour 96 = .ok (.getfield 43, 3) := by decide +kernel
theorem dX10_colour_99 : decode cX10_colour 99 = .ok (.aload_n 0, 1) := by decide +kernel
theorem dX10_colour_100 : decode cX10_colour 100 = .ok (.getfield 162, 3) := by decide +kernel
theorem dX10_colour_103 : decode cX10_colour 103 = .ok (.iload_n 2, 1) := by decide +kernel
theorem dX10_colour_104 : decode cX10_colour 104 = .ok (.iastore, 1) := by decide +kernel
theorem dX10_colour_105 : decode cX10_colour 105 = .ok (.aload_n 0, 1) := by decide +kernel
theorem dX10_colour_106 : decode cX10_colour 106 = .ok (.getfield 46, 3) := by decide +kernel
theorem dX10_colour_109 : decode cX10_colour 109 = .ok (.aload_n 0, 1) := by decide +kernel
theorem dX10_colour_110 : decode cX10_colour 110 = .ok (.getfield 162, 3) := by decide +kernel
theorem dX10_colour_113 : decode cX10_colour 113 = .ok (.iload_n 3, 1) := by decide +kernel
theorem dX10_colour_114 : decode cX10_colour 114 = .ok (.iastore, 1) := by decide +kernel
theorem dX10_colour_115 : decode cX10_colour 115 = .ok (.aload_n 0, 1) := by decide +kernel
theorem dX10_colour_116 : decode cX10_colour 116 = .ok (.getfield 49, 3) := by decide +kernel
theorem dX10_colour_119 : decode cX10_colour 119 = .ok (.aload_n 0, 1) := by decide +kernel
theorem dX10_colour_120 : decode cX10_colour 120 = .ok (.getfield 162, 3) := by decide +kernel
theorem dX10_colour_123 : decode cX10_colour 123 = .ok (.iload 4, 2) := by decide +kernel
theorem dX10_colour_125 : decode cX10_colour 125 = .ok (.iastore, 1) := by decide +kernel
theorem dX10_colour_126 : decode cX10_colour 126 = .ok (.aload_n 0, 1) := by decide +kernel
theorem dX10_colour_127 : decode cX10_colour 127 = .ok (.dup, 1) := by decide +kernel
theorem dX10_colour_128 : decode cX10_colour 128 = .ok (.getfield 162, 3) := by decide +kernel
theorem dX10_colour_131 : decode cX10_colour 131 = .ok (.iconst 1, 1) := by decide +kernel
theorem dX10_colour_132 : decode cX10_colour 132 = .ok (.iadd, 1) := by decide +kernel
theorem dX10_colour_133 : decode cX10_colour 133 = .ok (.putfield 162, 3) := by decide +kernel
theorem dX10_colour_136 : decode cX10_colour 136 = .ok (.aload_n 0, 1) := by decide +kernel
theorem dX10_colour_137 : decode cX10_colour 137 = .ok (.getfield 162, 3) := by decide +kernel
theorem dX10_colour_140 : decode cX10_colour 140 = .ok (.iconst 1, 1) := by decide +kernel
theorem dX10_colour_141 : decode cX10_colour 141 = .ok (.isub, 1) := by decide +kernel
theorem dX10_colour_142 : decode cX10_colour 142 = .ok (.ireturn, 1) := by decide +kernel
set_option maxRecDepth 20000 in
theorem ggX10_pair_X10_stops : GoodIn wsX10_pair wsX10_stops := goodIn_r _ [12, 13, 14, 15, 16, 17, 18, 19, 20, 21, 22, 23, 24, 25, 26, 27, 28, 29, 30, 31, 32, 33, 34, 35, 36, 37, 38, 39, 40, 41, 42, 43, 44, 45, 46, 47, 48, 49, 50, 51, 52, 53, 54, 55, 56, 57, 58, 59, 60, 61, 62, 63, 64, 65, 66, 67, 68, 69, 70, 71, 72] (by decide +kernel) (by decide +kernel)
set_option maxRecDepth 20000 in
theorem gX10_pair_X10_stops : GoodIn wsX10_pair (wsV RX10 165 RX10 yX10_stops wsX10_stops) := goodIn_app (goodIn_of _ (by decide +kernel)) ggX10_pair_X10_stops
theorem dX10_pair_0 : decode cX10_pair 0 = .ok (.aload_n 0, 1) := by decide +kernel
theorem dX10_pair_1 : decode cX10_pair 1 = .ok (.getfield 76, 3) := by decide +kernel
theorem dX10_pair_4 : decode cX10_pair 4 = .ok (.iload_n 1, 1) := by decide +kernel
theorem dX10_pair_5 : decode cX10_pair 5 = .ok (.iaload, 1) := by decide +kernel
theorem dX10_pair_6 : decode cX10_pair 6 = .ok (.istore_n 3, 1) := by decide +kernel
theorem dX10_pair_7 : decode cX10_pair 7 = .ok (.iload_n 3, 1) := by decide +kernel
theorem dX10_pair_8 : decode cX10_pair 8 = .ok (.ifCond .lt 25, 3) := by decide +kernel
theorem dX10_pair_11 : decode cX10_pair 11 = .ok (.aload_n 0, 1) := by decide +kernel
theorem dX10_pair_12 : decode cX10_pair 12 = .ok (.getfield 55, 3) := by decide +kernel
theorem dX10_pair_15 : decode cX10_pair 15 = .ok (.iload_n 3, 1) := by decide +kernel
theorem dX10_pair_16 : decode cX10_pair 16 = .ok (.iaload, 1) := by decide +kernel
theorem dX10_pair_17 : decode cX10_pair 17 = .ok (.iload_n 2, 1) := by decide +kernel
theorem dX10_pair_18 : decode cX10_pair 18 = .ok (.if_icmp .ne 5, 3) := by decide +kernel
theorem dX10_pair_21 : decode cX10_pair 21 = .ok (.iload_n 3, 1) := by decide +kernel
theorem dX10_pair_22 : decode cX10_pair 22 = .ok (.ireturn, 1) := by decide +kernel
theorem dX10_pair_23 : decode cX10_pair 23 = .ok (.aload_n 0, 1) := by decide +kernel
theorem dX10_pair_24 : decode cX10_pair 24 = .ok (.getfield 64, 3) := by decide +kernel
theorem dX10_pair_27 : decode cX10_pair 27 = .ok (.iload_n 3, 1) := by decide +kernel
theorem dX10_pair_28 : decode cX10_pair 28 = .ok (.iaload, 1) := by decide +kernel
theorem dX10_pair_29 : decode cX10_pair 29 = .ok (.istore_n 3, 1) := by decide +kernel
theorem dX10_pair_30 : decode cX10_pair 30 = .ok (.goto (-23), 3) := by decide +kernel
theorem dX10_pair_33 : decode cX10_pair 33 = .ok (.aload_n 0, 1) := by decide +kernel
theorem dX10_pair_34 : decode cX10_pair 34 = .ok (.getfield 169, 3) := by decide +kernel
theorem dX10_pair_37 : decode cX10_pair 37 = .ok (.sipush 3000, 3) := by decide +kernel
theorem dX10_pair_40 : decode cX10_pair 40 = .ok (.if_icmp .ne 12, 3) := by decide +kernel
theorem dX10_pair_43 : decode cX10_pair 43 = .ok (.aload_n 0, 1) := by decide +kernel
theorem dX10_pair_44 : decode cX10_pair 44 = .ok (.iconst 2, 1) := by decide +kernel
theorem dX10_pair_45 : decode cX10_pair 45 = .ok (.iconst (-1), 1) := by decide +kernel
theorem dX10_pair_46 : decode cX10_pair 46 = .ok (.invokevirtual 165, 3) := by decide +kernel
theorem dX10_pair_49 : decode cX10_pair 49 = .ok (.pop, 1) := by decide +kernel
theorem dX10_pair_50 : decode cX10_pair 50 = .ok (.iconst (-1), 1) := by decide +kernel
theorem dX10_pair_51 : decode cX10_pair 51 = .ok (.ireturn, 1) := by decide +kernel
theorem dX10_pair_52 : decode cX10_pair 52 = .ok (.aload_n 0, 1) := by decide +kernel
theorem dX10_pair_53 : decode cX10_pair 53 = .ok (.getfield 169, 3) := by decide +kernel
theorem dX10_pair_56 : decode cX10_pair 56 = .ok (.istore_n 3, 1) := by decide +kernel
theorem dX10_pair_57 : decode cX10_pair 57 = .ok (.aload_n 0, 1) := by decide +kernel
theorem dX10_pair_58 : decode cX10_pair 58 = .ok (.getfield 52, 3) := by decide +kernel
theorem dX10_pair_61 : decode cX10_pair 61 = .ok (.iload_n 3, 1) := by decide +kernel
theorem dX10_pair_62 : decode cX10_pair 62 = .ok (.iload_n 1, 1) := by decide +kernel
theorem dX10_pair_63 : decode cX10_pair 63 = .ok (.iastore, 1) := by decide +kernel
theorem dX10_pair_64 : decode cX10_pair 64 = .ok (.aload_n 0, 1) := by decide +kernel
theorem dX10_pair_65 : decode cX10_pair 65 = .ok (.getfield 55, 3) := by decide +kernel
theorem dX10_pair_68 : decode cX10_pair 68 = .ok (.iload_n 3, 1) := by decide +kernel
theorem dX10_pair_69 : decode cX10_pair 69 = .ok (.iload_n 2, 1) := by decide +kernel
theorem dX10_pair_70 : decode cX10_pair 70 = .ok (.iastore, 1) := by decide +kernel
theorem dX10_pair_71 : decode cX10_pair 71 = .ok (.aload_n 0, 1) := by decide +kernel
theorem dX10_pair_72 : decode cX10_pair 72 = .ok (.getfield 58, 3) := by decide +kernel
theorem dX10_pair_75 : decode cX10_pair 75 = .ok (.iload_n 3, 1) := by decide +kernel
theorem dX10_pair_76 : decode cX10_pair 76 = .ok (.iconst 0, 1) := by decide +kernel
theorem dX10_pair_77 : decode cX10_pair 77 = .ok (.iastore, 1) := by decide +kernel
theorem dX10_pair_78 : decode cX10_pair 78 = .ok (.aload_n 0, 1) := by decide +kernel
theorem dX10_pair_79 : decode cX10_pair 79 = .ok (.getfield 61, 3) := by decide +kernel
theorem dX10_pair_82 : decode cX10_pair 82 = .ok (.iload_n 3, 1) := by decide +kernel
theorem dX10_pair_83 : decode cX10_pair 83 = .ok (.iconst 0, 1) := by decide +kernel
theorem dX10_pair_84 : decode cX10_pair 84 = .ok (.iastore, 1) := by decide +kernel
theorem dX10_pair_85 : decode cX10_pair 85 = .ok (.aload_n 0, 1) := by decide +kernel
theorem dX10_pair_86 : decode cX10_pair 86 = .ok (.getfield 64, 3) := by decide +kernel
theorem dX10_pair_89 : decode cX10_pair 89 = .ok (.iload_n 3, 1) := by decide +kernel
theorem dX10_pair_90 : decode cX10_pair 90 = .ok (.aload_n 0, 1) := by decide +kernel
theorem dX10_pair_91 : decode cX10_pair 91 = .ok (.getfield 76, 3) := by decide +kernel
theorem dX10_pair_94 : decode cX10_pair 94 = .ok (.iload_n 1, 1) := by decide +kernel
theorem dX10_pair_95 : decode cX10_pair 95 = .ok (.iaload, 1) := by decide +kernel
theorem dX10_pair_96 : decode cX10_pair 96 = .ok (.iastore, 1) := by decide +kernel
theorem dX10_pair_97 : decode cX10_pair 97 = .ok (.aload_n 0, 1) := by decide +kernel
theorem dX10_pair_98 : decode cX10_pair 98 = .ok (.getfield 76, 3) := by decide +kernel
theorem dX10_pair_101 : decode cX10_pair 101 = .ok (.iload_n 1, 1) := by decide +kernel
theorem dX10_pair_102 : decode cX10_pair 102 = .ok (.iload_n 3, 1) := by decide +kernel
theorem dX10_pair_103 : decode cX10_pair 103 = .ok (.iastore, 1) := by decide +kernel
theorem dX10_pair_104 : decode cX10_pair 104 = .ok (.aload_n 0, 1) := by decide +kernel
theorem dX10_pair_105 : decode cX10_pair 105 = .ok (.dup, 1) := by decide +kernel
theorem dX10_pair_106 : decode cX10_pair 106 = .ok (.getfield 169, 3) := by decide +kernel
theorem dX10_pair_109 : decode cX10_pair 109 = .ok (.iconst 1, 1) := by decide +kernel
theorem dX10_pair_110 : decode cX10_pair 110 = .ok (.iadd, 1) := by decide +kernel
theorem dX10_pair_111 : decode cX10_pair 111 = .ok (.putfield 169, 3) := by decide +kernel
theorem dX10_pair_114 : decode cX10_pair 114 = .ok (.iload_n 3, 1) := by decide +kernel
theorem dX10_pair_115 : decode cX10_pair 115 = .ok (.ireturn, 1) := by decide +kernel
set_option maxRecDepth 20000 in
theorem ggX10_comes_X10_pair : GoodIn wsX10_comes wsX10_pair := goodIn_r _ [13, 14, 15, 16, 17, 18, 1, 6, 19, 20, 21, 12, 22, 23, 24, 25, 26, 27, 28, 29, 30, 31, 32, 33, 34, 35, 36, 37, 38, 39, 40, 41, 42, 43, 44, 45, 46, 47, 48, 49, 50, 51, 52, 53, 54, 55, 56, 57, 58, 59, 60, 61, 62, 63, 64, 65, 66, 67, 68, 69, 70, 71, 72, 73, 74, 75, 76, 77, 78, 79, 80, 81, 82] (by decide +kernel) (by decide +kernel)
set_option maxRecDepth 20000 in
theorem gX10_comes_X10_pair : GoodIn wsX10_comes (wsV RX10 172 RX10 yX10_pair wsX10_pair) := goodIn_app (goodIn_of _ (by decide +kernel)) ggX10_comes_X10_pair
set_option maxRecDepth 20000 in
theorem ggX10_comes_X10_stops : GoodIn wsX10_comes wsX10_stops := goodIn_r _ [22, 23, 24, 25, 26, 27, 28, 29, 30, 31, 32, 33, 34, 35, 36, 37, 38, 39, 40, 41, 42, 43, 44, 45, 46, 47, 48, 49, 50, 51, 52, 53, 54, 55, 56, 57, 58, 59, 60, 61, 62, 63, 64, 65, 66, 67, 68, 69, 70, 71, 72, 73, 74, 75, 76, 77, 78, 79, 80, 81, 82] (by decide +kernel) (by decide +kernel)
set_option maxRecDepth 20000 in
theorem gX10_comes_X10_stops : GoodIn wsX10_comes (wsV RX10 165 RX10 yX10_stops wsX10_stops) := goodIn_app (goodIn_of _ (by decide +kernel)) ggX10_comes_X10_stops
theorem dX10_comes_0 : decode cX10_comes 0 = .ok (.aload_n 0, 1) := by decide +kernel
theorem dX10_comes_1 : decode cX10_comes 1 = .ok (.iload_n 1, 1) := by decide +kernel
theorem dX10_comes_2 : decode cX10_comes 2 = .ok (.iload_n 3, 1) := by decide +kernel
theorem dX10_comes_3 : decode cX10_comes 3 = .ok (.invokevirtual 172, 3) := by decide +kernel
theorem dX10_comes_6 : decode cX10_comes 6 = .ok (.istore 7, 2) := by decide +kernel
theorem dX10_comes_8 : decode cX10_comes 8 = .ok (.iload 7, 2) := by decide +kernel
theorem dX10_comes_10 : decode cX10_comes 10 = .ok (.ifCond .ge 5, 3) := by decide +kernel
theorem dX10_comes_13 : decode cX10_comes 13 = .ok (.iconst 0, 1) := by decide +kernel
theorem dX10_comes_14 : decode cX10_comes 14 = .ok (.ireturn, 1) := by decide +kernel
theorem dX10_comes_15 : decode cX10_comes 15 = .ok (.aload_n 0, 1) := by decide +kernel
theorem dX10_comes_16 : decode cX10_comes 16 = .ok (.getfield 58, 3) := by decide +kernel
theorem dX10_comes_19 : decode cX10_comes 19 = .ok (.iload 7, 2) := by decide +kernel
theorem dX10_comes_21 : decode cX10_comes 21 = .ok (.iaload, 1) := by decide +kernel
theorem dX10_comes_22 : decode cX10_comes 22 = .ok (.iload_n 2, 1) := by decide +kernel
theorem dX10_comes_23 : decode cX10_comes 23 = .ok (.ishr, 1) := by decide +kernel
theorem dX10_comes_24 : decode cX10_comes 24 = .ok (.iconst 1, 1) := by decide +kernel
theorem dX10_comes_25 : decode cX10_comes 25 = .ok (.iand, 1) := by decide +kernel
theorem dX10_comes_26 : decode cX10_comes 26 = .ok (.iconst 1, 1) := by decide +kernel
theorem dX10_comes_27 : decode cX10_comes 27 = .ok (.if_icmp .ne 10, 3) := by decide +kernel
theorem dX10_comes_30 : decode cX10_comes 30 = .ok (.aload_n 0, 1) := by decide +kernel
theorem dX10_comes_31 : decode cX10_comes 31 = .ok (.iconst 1, 1) := by decide +kernel
theorem dX10_comes_32 : decode cX10_comes 32 = .ok (.iload_n 1, 1) := by decide +kernel
theorem dX10_comes_33 : decode cX10_comes 33 = .ok (.invokevirtual 165, 3) := by decide +kernel
theorem dX10_comes_36 : decode cX10_comes 36 = .ok (.ireturn, 1) := by decide +kernel
theorem dX10_comes_37 : decode cX10_comes 37 = .ok (.aload_n 0, 1) := by decide +kernel
theorem dX10_comes_38 : decode cX10_comes 38 = .ok (.getfield 58, 3) := by decide +kernel
theorem dX10_comes_41 : decode cX10_comes 41 = .ok (.iload 7, 2) := by decide +kernel
theorem dX10_comes_43 : decode cX10_comes 43 = .ok (.dup2, 1) := by decide +kernel
theorem dX10_comes_44 : decode cX10_comes 44 = .ok (.iaload, 1) := by decide +kernel
theorem dX10_comes_45 : decode cX10_comes 45 = .ok (.iconst 1, 1) := by decide +kernel
theorem dX10_comes_46 : decode cX10_comes 46 = .ok (.iload_n 2, 1) := by decide +kernel
theorem dX10_comes_47 : decode cX10_comes 47 = .ok (.ishl, 1) := by decide +kernel
theorem dX10_comes_48 : decode cX10_comes 48 = .ok (.ior, 1) := by decide +kernel
theorem dX10_comes_49 : decode cX10_comes 49 = .ok (.iastore, 1) := by decide +kernel
theorem dX10_comes_50 : decode cX10_comes 50 = .ok (.aload_n 0, 1) := by decide +kernel
theorem dX10_comes_51 : decode cX10_comes 51 = .ok (.getfield 67, 3) := by decide +kernel
theorem dX10_comes_54 : decode cX10_comes 54 = .ok (.iconst 3, 1) := by decide +kernel
theorem dX10_comes_55 : decode cX10_comes 55 = .ok (.iload 7, 2) := by decide +kernel
theorem dX10_comes_57 : decode cX10_comes 57 = .ok (.imul, 1) := by decide +kernel
theorem dX10_comes_58 : decode cX10_comes 58 = .ok (.iload_n 2, 1) := by decide +kernel
theorem dX10_comes_59 : decode cX10_comes 59 = .ok (.iadd, 1) := by decide +kernel
theorem dX10_comes_60 : decode cX10_comes 60 = .ok (.iload 4, 2) := by decide +kernel
theorem dX10_comes_62 : decode cX10_comes 62 = .ok (.iastore, 1) := by decide +kernel
theorem dX10_comes_63 : decode cX10_comes 63 = .ok (.aload_n 0, 1) := by decide +kernel
theorem dX10_comes_64 : decode cX10_comes 64 = .ok (.getfield 70, 3) := by decide +kernel
theorem dX10_comes_67 : decode cX10_comes 67 = .ok (.iconst 3, 1) := by decide +kernel
theorem dX10_comes_68 : decode cX10_comes 68 = .ok (.iload 7, 2) := by decide +kernel
theorem dX10_comes_70 : decode cX10_comes 70 = .ok (.imul, 1) := by decide +kernel
theorem dX10_comes_71 : decode cX10_comes 71 = .ok (.iload_n 2, 1) := by decide +kernel
theorem dX10_comes_72 : decode cX10_comes 72 = .ok (.iadd, 1) := by decide +kernel
theorem dX10_comes_73 : decode cX10_comes 73 = .ok (.iload 5, 2) := by decide +kernel
theorem dX10_comes_75 : decode cX10_comes 75 = .ok (.iastore, 1) := by decide +kernel
theorem dX10_comes_76 : decode cX10_comes 76 = .ok (.aload_n 0, 1) := by decide +kernel
theorem dX10_comes_77 : decode cX10_comes 77 = .ok (.getfield 73, 3) := by decide +kernel
theorem dX10_comes_80 : decode cX10_comes 80 = .ok (.iconst 3, 1) := by decide +kernel
theorem dX10_comes_81 : decode cX10_comes 81 = .ok (.iload 7, 2) := by decide +kernel
theorem dX10_comes_83 : decode cX10_comes 83 = .ok (.imul, 1) := by decide +kernel
theorem dX10_comes_84 : decode cX10_comes 84 = .ok (.iload_n 2, 1) := by decide +kernel
theorem dX10_comes_85 : decode cX10_comes 85 = .ok (.iadd, 1) := by decide +kernel
theorem dX10_comes_86 : decode cX10_comes 86 = .ok (.iload 6, 2) := by decide +kernel
theorem dX10_comes_88 : decode cX10_comes 88 = .ok (.iastore, 1) := by decide +kernel
theorem dX10_comes_89 : decode cX10_comes 89 = .ok (.aload_n 0, 1) := by decide +kernel
theorem dX10_comes_90 : decode cX10_comes 90 = .ok (.getfield 58, 3) := by decide +kernel
theorem dX10_comes_93 : decode cX10_comes 93 = .ok (.iload 7, 2) := by decide +kernel
theorem dX10_comes_95 : decode cX10_comes 95 = .ok (.iaload, 1) := by decide +kernel
theorem dX10_comes_96 : decode cX10_comes 96 = .ok (.iconst 1, 1) := by decide +kernel
theorem dX10_comes_97 : decode cX10_comes 97 = .ok (.aload_n 0, 1) := by decide +kernel
theorem dX10_comes_98 : decode cX10_comes 98 = .ok (.getfield 16, 3) := by decide +kernel
theorem dX10_comes_101 : decode cX10_comes 101 = .ok (.iload_n 1, 1) := by decide +kernel
theorem dX10_comes_102 : decode cX10_comes 102 = .ok (.iaload, 1) := by decide +kernel
theorem dX10_comes_103 : decode cX10_comes 103 = .ok (.ishl, 1) := by decide +kernel
theorem dX10_comes_104 : decode cX10_comes 104 = .ok (.iconst 1, 1) := by decide +kernel
theorem dX10_comes_105 : decode cX10_comes 105 = .ok (.isub, 1) := by decide +kernel
theorem dX10_comes_106 : decode cX10_comes 106 = .ok (.if_icmp .eq 5, 3) := by decide +kernel
theorem dX10_comes_109 : decode cX10_comes 109 = .ok (.iconst 1, 1) := by decide +kernel
theorem dX10_comes_110 : decode cX10_comes 110 = .ok (.ireturn, 1) := by decide +kernel
theorem dX10_comes_111 : decode cX10_comes 111 = .ok (.aload_n 0, 1) := by decide +kernel
theorem dX10_comes_112 : decode cX10_comes 112 = .ok (.getfield 61, 3) := by decide +kernel
theorem dX10_comes_115 : decode cX10_comes 115 = .ok (.iload 7, 2) := by decide +kernel
theorem dX10_comes_117 : decode cX10_comes 117 = .ok (.iconst 1, 1) := by decide +kernel
theorem dX10_comes_118 : decode cX10_comes 118 = .ok (.iastore, 1) := by decide +kernel
theorem dX10_comes_119 : decode cX10_comes 119 = .ok (.aload_n 0, 1) := by decide +kernel
theorem dX10_comes_120 : decode cX10_comes 120 = .ok (.getfield 82, 3) := by decide +kernel
theorem dX10_comes_123 : decode cX10_comes 123 = .ok (.aload_n 0, 1) := by decide +kernel
theorem dX10_comes_124 : decode cX10_comes 124 = .ok (.getfield 175, 3) := by decide +kernel
theorem dX10_comes_127 : decode cX10_comes 127 = .ok (.iload 7, 2) := by decide +kernel
theorem dX10_comes_129 : decode cX10_comes 129 = .ok (.iastore, 1) := by decide +kernel
theorem dX10_comes_130 : decode cX10_comes 130 = .ok (.aload_n 0, 1) := by decide +kernel
theorem dX10_comes_131 : decode cX10_comes 131 = .ok (.dup, 1) := by decide +kernel
theorem dX10_comes_132 : decode cX10_comes 132 = .ok (.getfield 175, 3) := by decide +kernel
theorem dX10_comes_135 : decode cX10_comes 135 = .ok (.iconst 1, 1) := by decide +kernel
theorem dX10_comes_136 : decode cX10_comes 136 = .ok (.iadd, 1) := by decide +kernel
theorem dX10_comes_137 : decode cX10_comes 137 = .ok (.putfield 175, 3) := by decide +kernel
theorem dX10_comes_140 : decode cX10_comes 140 = .ok (.iconst 1, 1) := by decide +kernel
theorem dX10_comes_141 : decode cX10_comes 141 = .ok (.ireturn, 1) := by decide +kernel
set_option maxRecDepth 20000 in
theorem ggX10_gives_X10_comes : GoodIn wsX10_gives wsX10_comes := goodIn_r _ [10, 11, 12, 13, 14, 15, 16, 17, 18, 19, 20, 21, 9, 22, 23, 24, 25, 26, 27, 28, 29, 30, 31, 32, 33, 34, 35, 36, 37, 38, 39, 40, 41, 42, 43, 44, 45, 46, 47, 48, 49, 50, 51, 52, 53, 54, 55, 56, 57, 58, 59, 60, 61, 62, 63, 64, 65, 66, 67, 68, 69, 70, 71, 72, 73, 74, 75, 76, 77, 78, 79, 80, 81, 82, 83, 84, 85, 86, 87, 88, 89, 90, 91] (by decide +kernel) (by decide +kernel)
set_option maxRecDepth 20000 in
theorem gX10_gives_X10_comes : GoodIn wsX10_gives (wsV RX10 178 RX10 yX10_comes wsX10_comes) := goodIn_app (goodIn_of _ (by decide +kernel)) ggX10_gives_X10_comes
theorem dX10_gives_0 : decode cX10_gives 0 = .ok (.iconst 0, 1) := by decide +kernel
theorem dX10_gives_1 : decode cX10_gives 1 = .ok (.istore 7, 2) := by decide +kernel
theorem dX10_gives_3 : decode cX10_gives 3 = .ok (.iload 7, 2) := by decide +kernel
theorem dX10_gives_5 : decode cX10_gives 5 = .ok (.aload_n 0, 1) := by decide +kernel
theorem dX10_gives_6 : decode cX10_gives 6 = .ok (.getfield 143, 3) := by decide +kernel
theorem dX10_gives_9 : decode cX10_gives 9 = .ok (.if_icmp .ge 61, 3) := by decide +kernel
theorem dX10_gives_12 : decode cX10_gives 12 = .ok (.aload_n 0, 1) := by decide +kernel
theorem dX10_gives_13 : decode cX10_gives 13 = .ok (.getfield 19, 3) := by decide +kernel
theorem dX10_gives_16 : decode cX10_gives 16 = .ok (.iload 7, 2) := by decide +kernel
theorem dX10_gives_18 : decode cX10_gives 18 = .ok (.iaload, 1) := by decide +kernel
theorem dX10_gives_19 : decode cX10_gives 19 = .ok (.iload_n 1, 1) := by decide +kernel
theorem dX10_gives_20 : decode cX10_gives 20 = .ok (.if_icmp .ne 44, 3) := by decide +kernel
theorem dX10_gives_23 : decode cX10_gives 23 = .ok (.aload_n 0, 1) := by decide +kernel
theorem dX10_gives_24 : decode cX10_gives 24 = .ok (.getfield 22, 3) := by decide +kernel
theorem dX10_gives_27 : decode cX10_gives 27 = .ok (.iload 7, 2) := by decide +kernel
theorem dX10_gives_29 : decode cX10_gives 29 = .ok (.iaload, 1) := by decide +kernel
theorem dX10_gives_30 : decode cX10_gives 30 = .ok (.iload_n 2, 1) := by decide +kernel
theorem dX10_gives_31 : decode cX10_gives 31 = .ok (.if_icmp .ne 33, 3) := by decide +kernel
theorem dX10_gives_34 : decode cX10_gives 34 = .ok (.aload_n 0, 1) := by decide +kernel
theorem dX10_gives_35 : decode cX10_gives 35 = .ok (.aload_n 0, 1) := by decide +kernel
theorem dX10_gives_36 : decode cX10_gives 36 = .ok (.getfield 25, 3) := by decide +kernel
theorem dX10_gives_39 : decode cX10_gives 39 = .ok (.iload 7, 2) := by decide +kernel
theorem dX10_gives_41 : decode cX10_gives 41 = .ok (.iaload, 1) := by decide +kernel
theorem dX10_gives_42 : decode cX10_gives 42 = .ok (.aload_n 0, 1) := by decide +kernel
theorem dX10_gives_43 : decode cX10_gives 43 = .ok (.getfield 28, 3) := by decide +kernel
theorem dX10_gives_46 : decode cX10_gives 46 = .ok (.iload 7, 2) := by decide +kernel
theorem dX10_gives_48 : decode cX10_gives 48 = .ok (.iaload, 1) := by decide +kernel
theorem dX10_gives_49 : decode cX10_gives 49 = .ok (.iload_n 3, 1) := by decide +kernel
theorem dX10_gives_50 : decode cX10_gives 50 = .ok (.iload 4, 2) := by decide +kernel
theorem dX10_gives_52 : decode cX10_gives 52 = .ok (.iload 5, 2) := by decide +kernel
theorem dX10_gives_54 : decode cX10_gives 54 = .ok (.iload 6, 2) := by decide +kernel
theorem dX10_gives_56 : decode cX10_gives 56 = .ok (.invokevirtual 178, 3) := by decide +kernel
theorem dX10_gives_59 : decode cX10_gives 59 = .ok (.ifCond .ne 5, 3) := by decide +kernel
theorem dX10_gives_62 : decode cX10_gives 62 = .ok (.iconst 0, 1) := by decide +kernel
theorem dX10_gives_63 : decode cX10_gives 63 = .ok (.ireturn, 1) := by decide +kernel
theorem dX10_gives_64 : decode cX10_gives 64 = .ok (.iinc 7 1, 3) := by decide +kernel
theorem dX10_gives_67 : decode cX10_gives 67 = .ok (.goto (-64), 3) := by decide +kernel
theorem dX10_gives_70 : decode cX10_gives 70 = .ok (.iconst 1, 1) := by decide +kernel
theorem dX10_gives_71 : decode cX10_gives 71 = .ok (.ireturn, 1) := by decide +kernel
set_option maxRecDepth 20000 in
theorem ggX10_faults_X10_gives : GoodIn wsX10_faults wsX10_gives := goodIn_r _ [5, 6, 7, 8, 9, 10, 11, 12, 13, 4, 14, 15, 16, 17, 18, 19, 20, 21, 22, 23, 24, 25, 26, 27, 28, 29, 30, 31, 32, 33, 34, 35, 36, 37, 38, 39, 40, 41, 42, 43, 44, 45, 46, 47, 48, 49, 50, 51, 52, 53, 54, 55, 56, 57, 58, 59, 60, 61, 62, 63, 64, 65, 66, 67, 68, 69, 70, 71, 72, 73, 74, 75, 76, 77, 78, 79, 80, 81, 82, 83, 84, 85, 86, 87, 88, 89, 90, 91, 92, 93, 94, 95] (by decide +kernel) (by decide +kernel)
set_option maxRecDepth 20000 in
theorem gX10_faults_X10_gives : GoodIn wsX10_faults (wsV RX10 182 RX10 yX10_gives wsX10_gives) := goodIn_app (goodIn_of _ (by decide +kernel)) ggX10_faults_X10_gives
theorem dX10_faults_0 : decode cX10_faults 0 = .ok (.aload_n 0, 1) := by decide +kernel
theorem dX10_faults_1 : decode cX10_faults 1 = .ok (.iload_n 1, 1) := by decide +kernel
theorem dX10_faults_2 : decode cX10_faults 2 = .ok (.iconst 0, 1) := by decide +kernel
theorem dX10_faults_3 : decode cX10_faults 3 = .ok (.iload_n 2, 1) := by decide +kernel
theorem dX10_faults_4 : decode cX10_faults 4 = .ok (.iconst 3, 1) := by decide +kernel
theorem dX10_faults_5 : decode cX10_faults 5 = .ok (.iload_n 3, 1) := by decide +kernel
theorem dX10_faults_6 : decode cX10_faults 6 = .ok (.iload_n 1, 1) := by decide +kernel
theorem dX10_faults_7 : decode cX10_faults 7 = .ok (.invokevirtual 182, 3) := by decide +kernel
theorem dX10_faults_10 : decode cX10_faults 10 = .ok (.ireturn, 1) := by decide +kernel
theorem dX10_kindAt_0 : decode cX10_kindAt 0 = .ok (.aload_n 0, 1) := by decide +kernel
theorem dX10_kindAt_1 : decode cX10_kindAt 1 = .ok (.getfield 67, 3) := by decide +kernel
theorem dX10_kindAt_4 : decode cX10_kindAt 4 = .ok (.iconst 3, 1) := by decide +kernel
theorem dX10_kindAt_5 : decode cX10_kindAt 5 = .ok (.iload_n 1, 1) := by decide +kernel
theorem dX10_kindAt_6 : decode cX10_kindAt 6 = .ok (.imul, 1) := by decide +kernel
theorem dX10_kindAt_7 : decode cX10_kindAt 7 = .ok (.iload_n 2, 1) := by decide +kernel
theorem dX10_kindAt_8 : decode cX10_kindAt 8 = .ok (.iadd, 1) := by decide +kernel
theorem dX10_kindAt_9 : decode cX10_kindAt 9 = .ok (.iaload, 1) := by decide +kernel
theorem dX10_kindAt_10 : decode cX10_kindAt 10 = .ok (.ireturn, 1) := by decide +kernel
theorem dX10_valueAt_0 : decode cX10_valueAt 0 = .ok (.aload_n 0, 1) := by decide +kernel
theorem dX10_valueAt_1 : decode cX10_valueAt 1 = .ok (.getfield 70, 3) := by decide +kernel
theorem dX10_valueAt_4 : decode cX10_valueAt 4 = .ok (.iconst 3, 1) := by decide +kernel
theorem dX10_valueAt_5 : decode cX10_valueAt 5 = .ok (.iload_n 1, 1) := by decide +kernel
theorem dX10_valueAt_6 : decode cX10_valueAt 6 = .ok (.imul, 1) := by decide +kernel
theorem dX10_valueAt_7 : decode cX10_valueAt 7 = .ok (.iload_n 2, 1) := by decide +kernel
theorem dX10_valueAt_8 : decode cX10_valueAt 8 = .ok (.iadd, 1) := by decide +kernel
theorem dX10_valueAt_9 : decode cX10_valueAt 9 = .ok (.iaload, 1) := by decide +kernel
theorem dX10_valueAt_10 : decode cX10_valueAt 10 = .ok (.ireturn, 1) := by decide +kernel
set_option maxRecDepth 20000 in
theorem ggX10_passes_X10_gives : GoodIn wsX10_passes wsX10_gives := goodIn_r _ [9, 10, 11, 12, 13, 14, 15, 16, 17, 8, 18, 19, 2, 3, 4, 20, 21, 22, 23, 24, 25, 26, 27, 28, 29, 30, 31, 1, 32, 33, 34, 35, 36, 37, 38, 39, 40, 41, 42, 43, 44, 45, 46, 47, 48, 49, 50, 51, 52, 53, 54, 55, 56, 57, 58, 59, 60, 61, 62, 63, 64, 65, 66, 67, 68, 69, 70, 71, 72, 73, 74, 75, 76, 77, 78, 79, 80, 81, 82, 83, 84, 85, 86, 87, 88, 89, 90, 91, 92, 93, 94, 95] (by decide +kernel) (by decide +kernel)
set_option maxRecDepth 20000 in
theorem gX10_passes_X10_gives : GoodIn wsX10_passes (wsV RX10 182 RX10 yX10_gives wsX10_gives) := goodIn_app (goodIn_of _ (by decide +kernel)) ggX10_passes_X10_gives
theorem dX10_passes_0 : decode cX10_passes 0 = .ok (.aload_n 0, 1) := by decide +kernel
theorem dX10_passes_1 : decode cX10_passes 1 = .ok (.aload_n 0, 1) := by decide +kernel
theorem dX10_passes_2 : decode cX10_passes 2 = .ok (.getfield 52, 3) := by decide +kernel
theorem dX10_passes_5 : decode cX10_passes 5 = .ok (.iload_n 1, 1) := by decide +kernel
theorem dX10_passes_6 : decode cX10_passes 6 = .ok (.iaload, 1) := by decide +kernel
theorem dX10_passes_7 : decode cX10_passes 7 = .ok (.iload_n 2, 1) := by decide +kernel
theorem dX10_passes_8 : decode cX10_passes 8 = .ok (.iload_n 3, 1) := by decide +kernel
theorem dX10_passes_9 : decode cX10_passes 9 = .ok (.aload_n 0, 1) := by decide +kernel
theorem dX10_passes_10 : decode cX10_passes 10 = .ok (.getfield 67, 3) := by decide +kernel
theorem dX10_passes_13 : decode cX10_passes 13 = .ok (.iconst 3, 1) := by decide +kernel
theorem dX10_passes_14 : decode cX10_passes 14 = .ok (.iload_n 1, 1) := by decide +kernel
theorem dX10_passes_15 : decode cX10_passes 15 = .ok (.imul, 1) := by decide +kernel
theorem dX10_passes_16 : decode cX10_passes 16 = .ok (.iaload, 1) := by decide +kernel
theorem dX10_passes_17 : decode cX10_passes 17 = .ok (.aload_n 0, 1) := by decide +kernel
theorem dX10_passes_18 : decode cX10_passes 18 = .ok (.getfield 70, 3) := by decide +kernel
theorem dX10_passes_21 : decode cX10_passes 21 = .ok (.iconst 3, 1) := by decide +kernel
theorem dX10_passes_22 : decode cX10_passes 22 = .ok (.iload_n 1, 1) := by decide +kernel
theorem dX10_passes_23 : decode cX10_passes 23 = .ok (.imul, 1) := by decide +kernel
theorem dX10_passes_24 : decode cX10_passes 24 = .ok (.iaload, 1) := by decide +kernel
theorem dX10_passes_25 : decode cX10_passes 25 = .ok (.aload_n 0, 1) := by decide +kernel
theorem dX10_passes_26 : decode cX10_passes 26 = .ok (.getfield 73, 3) := by decide +kernel
theorem dX10_passes_29 : decode cX10_passes 29 = .ok (.iconst 3, 1) := by decide +kernel
theorem dX10_passes_30 : decode cX10_passes 30 = .ok (.iload_n 1, 1) := by decide +kernel
theorem dX10_passes_31 : decode cX10_passes 31 = .ok (.imul, 1) := by decide +kernel
theorem dX10_passes_32 : decode cX10_passes 32 = .ok (.iaload, 1) := by decide +kernel
theorem dX10_passes_33 : decode cX10_passes 33 = .ok (.invokevirtual 182, 3) := by decide +kernel
theorem dX10_passes_36 : decode cX10_passes 36 = .ok (.ireturn, 1) := by decide +kernel
set_option maxRecDepth 20000 in
theorem ggX10_faultOf_X10_kindAt : GoodIn wsX10_faultOf wsX10_kindAt := goodIn_r _ [5, 6, 7, 8, 9, 10, 11, 12, 13, 14, 15, 16, 17, 18, 19, 20, 21, 22, 23, 24, 25, 26, 27, 28, 29, 30, 31, 32, 33, 34, 35, 36, 37, 38, 39, 40, 41, 42, 43, 44, 45, 46, 47, 48, 49, 50, 51, 52, 53, 54, 55, 56, 57, 58, 59, 60, 61, 62, 63] (by decide +kernel) (by decide +kernel)
set_option maxRecDepth 20000 in
theorem gX10_faultOf_X10_kindAt : GoodIn wsX10_faultOf (wsV RX10 185 RX10 yX10_kindAt wsX10_kindAt) := goodIn_app (goodIn_of _ (by decide +kernel)) ggX10_faultOf_X10_kindAt
theorem dX10_faultOf_0 : decode cX10_faultOf 0 = .ok (.iconst 0, 1) := by decide +kernel
theorem dX10_faultOf_1 : decode cX10_faultOf 1 = .ok (.istore_n 3, 1) := by decide +kernel
theorem dX10_faultOf_2 : decode cX10_faultOf 2 = .ok (.iload_n 3, 1) := by decide +kernel
theorem dX10_faultOf_3 : decode cX10_faultOf 3 = .ok (.iload_n 2, 1) := by decide +kernel
theorem dX10_faultOf_4 : decode cX10_faultOf 4 = .ok (.if_icmp .ge 21, 3) := by decide +kernel
theorem dX10_faultOf_7 : decode cX10_faultOf 7 = .ok (.aload_n 0, 1) := by decide +kernel
theorem dX10_faultOf_8 : decode cX10_faultOf 8 = .ok (.iload_n 1, 1) := by decide +kernel
theorem dX10_faultOf_9 : decode cX10_faultOf 9 = .ok (.iload_n 3, 1) := by decide +kernel
theorem dX10_faultOf_10 : decode cX10_faultOf 10 = .ok (.invokevirtual 185, 3) := by decide +kernel
theorem dX10_faultOf_13 : decode cX10_faultOf 13 = .ok (.iconst 3, 1) := by decide +kernel
theorem dX10_faultOf_14 : decode cX10_faultOf 14 = .ok (.if_icmp .ne 5, 3) := by decide +kernel
theorem dX10_faultOf_17 : decode cX10_faultOf 17 = .ok (.iload_n 3, 1) := by decide +kernel
theorem dX10_faultOf_18 : decode cX10_faultOf 18 = .ok (.ireturn, 1) := by decide +kernel
theorem dX10_faultOf_19 : decode cX10_faultOf 19 = .ok (.iinc 3 1, 3) := by decide +kernel
theorem dX10_faultOf_22 : decode cX10_faultOf 22 = .ok (.goto (-20), 3) := by decide +kernel
theorem dX10_faultOf_25 : decode cX10_faultOf 25 = .ok (.iconst (-1), 1) := by decide +kernel
theorem dX10_faultOf_26 : decode cX10_faultOf 26 = .ok (.ireturn, 1) := by decide +kernel
set_option maxRecDepth 20000 in
theorem ggX10_number_X10_gives : GoodIn wsX10_number wsX10_gives := goodIn_r _ [7, 8, 9, 10, 11, 12, 13, 14, 15, 6, 16, 17, 18, 19, 20, 21, 22, 23, 24, 25, 26, 27, 28, 29, 2, 30, 31, 1, 32, 33, 34, 35, 36, 37, 38, 39, 40, 41, 42, 43, 44, 45, 46, 47, 48, 49, 50, 51, 52, 53, 54, 55, 56, 57, 58, 59, 60, 61, 62, 63, 64, 65, 66, 67, 68, 69, 70, 71, 72, 73, 74, 75, 76, 77, 78, 79, 80, 81, 82, 83, 84, 85, 86, 87, 88, 89, 90, 91, 92, 93, 94, 95] (by decide +kernel) (by decide +kernel)
set_option maxRecDepth 20000 in
theorem gX10_number_X10_gives : GoodIn wsX10_number (wsV RX10 182 RX10 yX10_gives wsX10_gives) := goodIn_app (goodIn_of _ (by decide +kernel)) ggX10_number_X10_gives
theorem dX10_number_0 : decode cX10_number 0 = .ok (.aload_n 0, 1) := by decide +kernel
theorem dX10_number_1 : decode cX10_number 1 = .ok (.aload_n 0, 1) := by decide +kernel
theorem dX10_number_2 : decode cX10_number 2 = .ok (.getfield 52, 3) := by decide +kernel
theorem dX10_number_5 : decode cX10_number 5 = .ok (.iload_n 1, 1) := by decide +kernel
theorem dX10_number_6 : decode cX10_number 6 = .ok (.iaload, 1) := by decide +kernel
theorem dX10_number_7 : decode cX10_number 7 = .ok (.iconst 0, 1) := by decide +kernel
theorem dX10_number_8 : decode cX10_number 8 = .ok (.aload_n 0, 1) := by decide +kernel
theorem dX10_number_9 : decode cX10_number 9 = .ok (.getfield 55, 3) := by decide +kernel
theorem dX10_number_12 : decode cX10_number 12 = .ok (.iload_n 1, 1) := by decide +kernel
