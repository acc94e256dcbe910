theorem dX10_number_13 : decode cX10_number 13 = .ok (.iaload, 1) := by decide +kernel
theorem dX10_number_14 : decode cX10_number 14 = .ok (.iconst 1, 1) := by decide +kernel
theorem dX10_number_15 : decode cX10_number 15 = .ok (.iload_n 2, 1) := by decide +kernel
theorem dX10_number_16 : decode cX10_number 16 = .ok (.iconst (-1), 1) := by decide +kernel
theorem dX10_number_17 : decode cX10_number 17 = .ok (.invokevirtual 182, 3) := by decide +kernel
theorem dX10_number_20 : decode cX10_number 20 = .ok (.ireturn, 1) := by decide +kernel
set_option maxRecDepth 20000 in
theorem ggX10_goesOff_X10_passes : GoodIn wsX10_goesOff wsX10_passes := goodIn_r _ [12, 1, 13, 6, 7, 14, 15, 16, 11, 17, 18, 19, 20, 21, 22, 23, 24, 25, 26, 27, 5, 28, 29, 30, 31, 32, 33, 34, 35, 2, 36, 37, 38, 39, 40, 41, 42, 43, 44, 127, 128, 129, 130, 131, 132, 133, 134, 135, 136, 137, 138, 139, 140, 141, 142, 143, 144, 145, 146, 147, 148, 149, 150, 151, 152, 153, 154, 155, 156, 157, 158, 159, 160, 161, 162, 163, 164, 165, 166, 167, 168, 169, 170, 171, 172, 173, 174, 175, 176, 177, 178, 179, 180, 181, 182, 183] (by decide +kernel) (by decide +kernel)
set_option maxRecDepth 20000 in
theorem gX10_goesOff_X10_passes : GoodIn wsX10_goesOff (wsV RX10 188 RX10 yX10_passes wsX10_passes) := goodIn_app (goodIn_of _ (by decide +kernel)) ggX10_goesOff_X10_passes
set_option maxRecDepth 20000 in
theorem ggX10_goesOff_X10_number : GoodIn wsX10_goesOff wsX10_number := goodIn_r _ [48, 1, 2, 14, 15, 16, 11, 17, 18, 19, 20, 21, 22, 23, 24, 25, 26, 27, 13, 6, 7, 5, 28, 29, 30, 31, 32, 33, 34, 35, 36, 37, 38, 39, 40, 41, 42, 43, 44, 127, 128, 129, 130, 131, 132, 133, 134, 135, 136, 137, 138, 139, 140, 141, 142, 143, 144, 145, 146, 147, 148, 149, 150, 151, 152, 153, 154, 155, 156, 157, 158, 159, 160, 161, 162, 163, 164, 165, 166, 167, 168, 169, 170, 171, 172, 173, 174, 175, 176, 177, 178, 179, 180, 181, 182, 183] (by decide +kernel) (by decide +kernel)
set_option maxRecDepth 20000 in
theorem gX10_goesOff_X10_number : GoodIn wsX10_goesOff (wsV RX10 191 RX10 yX10_number wsX10_number) := goodIn_app (goodIn_of _ (by decide +kernel)) ggX10_goesOff_X10_number
set_option maxRecDepth 20000 in
theorem ggX10_goesOff_X10_switches : GoodIn wsX10_goesOff wsX10_switches := goodIn_r _ [52, 53, 2, 54, 55, 56, 11, 57, 13, 58, 59, 60, 61, 6, 8, 9, 10, 12, 1, 7, 14, 15, 16, 17, 18, 19, 20, 21, 22, 23, 24, 25, 26, 27, 5, 28, 29, 30, 31, 32, 33, 34, 35, 36, 37, 38, 39, 40, 41, 42, 43, 44, 127, 128, 129, 130, 131, 132, 133, 134, 135, 136, 137, 138, 139, 140, 141, 142, 143, 144, 145, 146, 147, 148, 149, 150, 151, 152, 153, 154, 155, 156, 157, 158, 159, 160, 161, 162, 163, 164, 165, 166, 167, 168, 169, 170, 171, 172, 173, 174, 175, 176, 177, 178, 179, 180, 181, 182, 183] (by decide +kernel) (by decide +kernel)
set_option maxRecDepth 20000 in
theorem gX10_goesOff_X10_switches : GoodIn wsX10_goesOff (wsV RX10 194 RX10 yX10_switches wsX10_switches) := goodIn_app (goodIn_of _ (by decide +kernel)) ggX10_goesOff_X10_switches
set_option maxRecDepth 20000 in
theorem ggX10_goesOff_X10_loops : GoodIn wsX10_goesOff wsX10_loops := goodIn_r _ [65, 1, 2, 4, 3, 66, 67, 68, 69, 70, 71, 72, 11, 73, 74, 38, 39, 40, 41, 42, 43, 44, 8, 9, 10, 12, 13, 6, 7, 14, 15, 16, 17, 18, 19, 20, 21, 22, 23, 24, 25, 26, 27, 5, 28, 29, 30, 31, 32, 33, 34, 35, 36, 37, 75, 76, 77, 78, 127, 128, 129, 130, 131, 132, 133, 134, 135, 136, 137, 138, 139, 140, 141, 142, 143, 144, 145, 146, 147, 148, 149, 150, 151, 152, 153, 154, 155, 156, 157, 158, 159, 160, 161, 162, 163, 164, 165, 166, 167, 168, 169, 170, 171, 172, 173, 174, 175, 176, 177, 178, 179, 180, 181, 182, 183] (by decide +kernel) (by decide +kernel)
set_option maxRecDepth 20000 in
theorem gX10_goesOff_X10_loops : GoodIn wsX10_goesOff (wsV RX10 197 RX10 yX10_loops wsX10_loops) := goodIn_app (goodIn_of _ (by decide +kernel)) ggX10_goesOff_X10_loops
set_option maxRecDepth 20000 in
theorem ggX10_goesOff_X10_calls : GoodIn wsX10_goesOff wsX10_calls := goodIn_r _ [82, 1, 2, 5, 83, 3, 4, 13, 6, 7, 70, 71, 72, 11, 73, 74, 66, 67, 69, 68, 38, 39, 40, 41, 42, 43, 44, 23, 24, 25, 26, 27, 28, 29, 30, 31, 32, 33, 34, 35, 36, 37, 127, 128, 129, 130, 131, 132, 133, 134, 135, 136, 137, 138, 139, 140, 141, 142, 143, 144, 145, 146, 147, 148, 149, 150, 151, 152, 153, 154, 155, 156, 157, 158, 159, 160, 161, 162, 163, 164, 165, 166, 167, 168, 169, 170, 171, 172, 173, 174, 175, 176, 177, 178, 179, 180, 181, 182, 183] (by decide +kernel) (by decide +kernel)
set_option maxRecDepth 20000 in
theorem gX10_goesOff_X10_calls : GoodIn wsX10_goesOff (wsV RX10 200 RX10 yX10_calls wsX10_calls) := goodIn_app (goodIn_of _ (by decide +kernel)) ggX10_goesOff_X10_calls
set_option maxRecDepth 20000 in
theorem ggX10_goesOff_X10_returns : GoodIn wsX10_goesOff wsX10_returns := goodIn_r _ [87, 2, 66, 53, 67, 68, 13, 6, 7, 14, 15, 16, 11, 17, 18, 19, 20, 21, 22, 23, 24, 25, 26, 27, 5, 28, 29, 30, 31, 32, 33, 34, 35, 36, 37, 1, 38, 39, 40, 41, 42, 43, 44, 127, 128, 129, 130, 131, 132, 133, 134, 135, 136, 137, 138, 139, 140, 141, 142, 143, 144, 145, 146, 147, 148, 149, 150, 151, 152, 153, 154, 155, 156, 157, 158, 159, 160, 161, 162, 163, 164, 165, 166, 167, 168, 169, 170, 171, 172, 173, 174, 175, 176, 177, 178, 179, 180, 181, 182, 183] (by decide +kernel) (by decide +kernel)
set_option maxRecDepth 20000 in
theorem gX10_goesOff_X10_returns : GoodIn wsX10_goesOff (wsV RX10 203 RX10 yX10_returns wsX10_returns) := goodIn_app (goodIn_of _ (by decide +kernel)) ggX10_goesOff_X10_returns
set_option maxRecDepth 20000 in
theorem ggX10_goesOff_X10_ends : GoodIn wsX10_goesOff wsX10_ends := goodIn_r _ [91, 4, 1, 2, 92, 93, 13, 94, 6, 95, 7, 38, 39, 40, 11, 41, 42, 43, 44, 127, 128, 129, 130, 131, 132, 133, 134, 135, 136, 137, 138, 139, 140, 141, 142, 143, 144, 145, 146, 147, 148, 149, 150, 151, 152, 153, 154, 155, 156, 157, 158, 159, 160, 161, 162, 163, 164, 165, 166, 167, 168, 169, 170, 171, 172, 173, 174, 175, 176, 177, 178, 179, 180, 181, 182, 183] (by decide +kernel) (by decide +kernel)
set_option maxRecDepth 20000 in
theorem gX10_goesOff_X10_ends : GoodIn wsX10_goesOff (wsV RX10 206 RX10 yX10_ends wsX10_ends) := goodIn_app (goodIn_of _ (by decide +kernel)) ggX10_goesOff_X10_ends
set_option maxRecDepth 20000 in
theorem ggX10_goesOff_X10_faultOf : GoodIn wsX10_goesOff wsX10_faultOf := goodIn_r _ [99, 54, 55, 56, 11, 57, 13, 127, 128, 129, 130, 131, 132, 133, 134, 135, 136, 137, 138, 139, 140, 141, 142, 143, 144, 145, 146, 147, 148, 149, 150, 151, 152, 153, 154, 155, 156, 157, 158, 159, 160, 161, 162, 163, 164, 165, 166, 167, 168, 169, 170, 171, 172, 173, 174, 175, 176, 177, 178, 179, 180, 181, 182, 183] (by decide +kernel) (by decide +kernel)
set_option maxRecDepth 20000 in
theorem gX10_goesOff_X10_faultOf : GoodIn wsX10_goesOff (wsV RX10 209 RX10 yX10_faultOf wsX10_faultOf) := goodIn_app (goodIn_of _ (by decide +kernel)) ggX10_goesOff_X10_faultOf
set_option maxRecDepth 20000 in
theorem ggX10_goesOff_X10_gives : GoodIn wsX10_goesOff wsX10_gives := goodIn_r _ [17, 18, 19, 20, 21, 22, 23, 24, 25, 11, 26, 27, 13, 6, 7, 5, 28, 29, 30, 31, 32, 33, 34, 35, 2, 36, 37, 1, 38, 39, 40, 41, 42, 43, 44, 127, 128, 129, 130, 131, 132, 133, 134, 135, 136, 137, 138, 139, 140, 141, 142, 143, 144, 145, 146, 147, 148, 149, 150, 151, 152, 153, 154, 155, 156, 157, 158, 159, 160, 161, 162, 163, 164, 165, 166, 167, 168, 169, 170, 171, 172, 173, 174, 175, 176, 177, 178, 179, 180, 181, 182, 183] (by decide +kernel) (by decide +kernel)
set_option maxRecDepth 20000 in
theorem gX10_goesOff_X10_gives : GoodIn wsX10_goesOff (wsV RX10 182 RX10 yX10_gives wsX10_gives) := goodIn_app (goodIn_of _ (by decide +kernel)) ggX10_goesOff_X10_gives
set_option maxRecDepth 20000 in
theorem ggX10_goesOff_X10_reckons : GoodIn wsX10_goesOff wsX10_reckons := goodIn_r _ [103, 1, 2, 5, 58, 59, 60, 11, 61, 6, 54, 55, 56, 57, 13, 75, 76, 77, 78, 14, 15, 16, 17, 18, 19, 20, 21, 22, 23, 24, 25, 26, 27, 7, 28, 29, 30, 31, 32, 33, 34, 35, 36, 37, 38, 39, 40, 41, 42, 43, 44, 45, 46, 47, 48, 104, 105, 106, 107, 108, 109, 110, 111, 112, 113, 114, 115, 116, 117, 127, 128, 129, 130, 131, 132, 133, 134, 135, 136, 137, 138, 139, 140, 141, 142, 143, 144, 145, 146, 147, 148, 149, 150, 151, 152, 153, 154, 155, 156, 157, 158, 159, 160, 161, 162, 163, 164, 165, 166, 167, 168, 169, 170, 171, 172, 173, 174, 175, 176, 177, 178, 179, 180, 181, 182, 183] (by decide +kernel) (by decide +kernel)
set_option maxRecDepth 20000 in
theorem gX10_goesOff_X10_reckons : GoodIn wsX10_goesOff (wsV RX10 212 RX10 yX10_reckons wsX10_reckons) := goodIn_app (goodIn_of _ (by decide +kernel)) ggX10_goesOff_X10_reckons
set_option maxRecDepth 20000 in
theorem ggX10_goesOff_X10_cells : GoodIn wsX10_goesOff wsX10_cells := goodIn_r _ [121, 1, 2, 111, 110, 114, 122, 123, 124, 125, 126, 7, 54, 55, 56, 11, 57, 13, 75, 76, 77, 78, 14, 15, 16, 17, 18, 19, 20, 21, 22, 23, 24, 25, 26, 27, 6, 5, 28, 29, 30, 31, 32, 33, 34, 35, 36, 37, 38, 39, 40, 41, 42, 43, 44, 58, 59, 60, 61, 45, 46, 47, 48, 115, 116, 117, 127, 128, 129, 130, 131, 132, 133, 134, 135, 136, 137, 138, 139, 140, 141, 142, 143, 144, 145, 146, 147, 148, 149, 150, 151, 152, 153, 154, 155, 156, 157, 158, 159, 160, 161, 162, 163, 164, 165, 166, 167, 168, 169, 170, 171, 172, 173, 174, 175, 176, 177, 178, 179, 180, 181, 182, 183] (by decide +kernel) (by decide +kernel)
set_option maxRecDepth 20000 in
theorem gX10_goesOff_X10_cells : GoodIn wsX10_goesOff (wsV RX10 215 RX10 yX10_cells wsX10_cells) := goodIn_app (goodIn_of _ (by decide +kernel)) ggX10_goesOff_X10_cells
theorem dX10_goesOff_0 : decode cX10_goesOff 0 = .ok (.aload_n 0, 1) := by decide +kernel
theorem dX10_goesOff_1 : decode cX10_goesOff 1 = .ok (.getfield 52, 3) := by decide +kernel
theorem dX10_goesOff_4 : decode cX10_goesOff 4 = .ok (.iload_n 1, 1) := by decide +kernel
theorem dX10_goesOff_5 : decode cX10_goesOff 5 = .ok (.iaload, 1) := by decide +kernel
theorem dX10_goesOff_6 : decode cX10_goesOff 6 = .ok (.istore_n 2, 1) := by decide +kernel
theorem dX10_goesOff_7 : decode cX10_goesOff 7 = .ok (.aload_n 0, 1) := by decide +kernel
theorem dX10_goesOff_8 : decode cX10_goesOff 8 = .ok (.getfield 55, 3) := by decide +kernel
theorem dX10_goesOff_11 : decode cX10_goesOff 11 = .ok (.iload_n 1, 1) := by decide +kernel
theorem dX10_goesOff_12 : decode cX10_goesOff 12 = .ok (.iaload, 1) := by decide +kernel
theorem dX10_goesOff_13 : decode cX10_goesOff 13 = .ok (.istore_n 3, 1) := by decide +kernel
theorem dX10_goesOff_14 : decode cX10_goesOff 14 = .ok (.aload_n 0, 1) := by decide +kernel
theorem dX10_goesOff_15 : decode cX10_goesOff 15 = .ok (.getfield 7, 3) := by decide +kernel
theorem dX10_goesOff_18 : decode cX10_goesOff 18 = .ok (.iload_n 2, 1) := by decide +kernel
theorem dX10_goesOff_19 : decode cX10_goesOff 19 = .ok (.iaload, 1) := by decide +kernel
theorem dX10_goesOff_20 : decode cX10_goesOff 20 = .ok (.istore 4, 2) := by decide +kernel
theorem dX10_goesOff_22 : decode cX10_goesOff 22 = .ok (.iload 4, 2) := by decide +kernel
theorem dX10_goesOff_24 : decode cX10_goesOff 24 = .ok (.tableswitch 154 0 21 #[104, 112, 154, 154, 154, 154, 154, 154, 154, 154, 124, 130, 130, 130, 136, 104, 142, 154, 154, 154, 154, 148], 104) := by decide +kernel
theorem dX10_goesOff_128 : decode cX10_goesOff 128 = .ok (.aload_n 0, 1) := by decide +kernel
theorem dX10_goesOff_129 : decode cX10_goesOff 129 = .ok (.iload_n 1, 1) := by decide +kernel
theorem dX10_goesOff_130 : decode cX10_goesOff 130 = .ok (.iconst 0, 1) := by decide +kernel
theorem dX10_goesOff_131 : decode cX10_goesOff 131 = .ok (.iload_n 3, 1) := by decide +kernel
theorem dX10_goesOff_132 : decode cX10_goesOff 132 = .ok (.invokevirtual 188, 3) := by decide +kernel
theorem dX10_goesOff_135 : decode cX10_goesOff 135 = .ok (.ireturn, 1) := by decide +kernel
theorem dX10_goesOff_136 : decode cX10_goesOff 136 = .ok (.aload_n 0, 1) := by decide +kernel
theorem dX10_goesOff_137 : decode cX10_goesOff 137 = .ok (.iload_n 1, 1) := by decide +kernel
theorem dX10_goesOff_138 : decode cX10_goesOff 138 = .ok (.aload_n 0, 1) := by decide +kernel
theorem dX10_goesOff_139 : decode cX10_goesOff 139 = .ok (.getfield 13, 3) := by decide +kernel
theorem dX10_goesOff_142 : decode cX10_goesOff 142 = .ok (.iload_n 2, 1) := by decide +kernel
theorem dX10_goesOff_143 : decode cX10_goesOff 143 = .ok (.iaload, 1) := by decide +kernel
theorem dX10_goesOff_144 : decode cX10_goesOff 144 = .ok (.invokevirtual 191, 3) := by decide +kernel
theorem dX10_goesOff_147 : decode cX10_goesOff 147 = .ok (.ireturn, 1) := by decide +kernel
theorem dX10_goesOff_148 : decode cX10_goesOff 148 = .ok (.aload_n 0, 1) := by decide +kernel
theorem dX10_goesOff_149 : decode cX10_goesOff 149 = .ok (.iload_n 1, 1) := by decide +kernel
theorem dX10_goesOff_150 : decode cX10_goesOff 150 = .ok (.invokevirtual 194, 3) := by decide +kernel
theorem dX10_goesOff_153 : decode cX10_goesOff 153 = .ok (.ireturn, 1) := by decide +kernel
theorem dX10_goesOff_154 : decode cX10_goesOff 154 = .ok (.aload_n 0, 1) := by decide +kernel
theorem dX10_goesOff_155 : decode cX10_goesOff 155 = .ok (.iload_n 1, 1) := by decide +kernel
theorem dX10_goesOff_156 : decode cX10_goesOff 156 = .ok (.invokevirtual 197, 3) := by decide +kernel
theorem dX10_goesOff_159 : decode cX10_goesOff 159 = .ok (.ireturn, 1) := by decide +kernel
theorem dX10_goesOff_160 : decode cX10_goesOff 160 = .ok (.aload_n 0, 1) := by decide +kernel
theorem dX10_goesOff_161 : decode cX10_goesOff 161 = .ok (.iload_n 1, 1) := by decide +kernel
theorem dX10_goesOff_162 : decode cX10_goesOff 162 = .ok (.invokevirtual 200, 3) := by decide +kernel
theorem dX10_goesOff_165 : decode cX10_goesOff 165 = .ok (.ireturn, 1) := by decide +kernel
theorem dX10_goesOff_166 : decode cX10_goesOff 166 = .ok (.aload_n 0, 1) := by decide +kernel
theorem dX10_goesOff_167 : decode cX10_goesOff 167 = .ok (.iload_n 1, 1) := by decide +kernel
theorem dX10_goesOff_168 : decode cX10_goesOff 168 = .ok (.invokevirtual 203, 3) := by decide +kernel
theorem dX10_goesOff_171 : decode cX10_goesOff 171 = .ok (.ireturn, 1) := by decide +kernel
theorem dX10_goesOff_172 : decode cX10_goesOff 172 = .ok (.aload_n 0, 1) := by decide +kernel
theorem dX10_goesOff_173 : decode cX10_goesOff 173 = .ok (.iload_n 1, 1) := by decide +kernel
theorem dX10_goesOff_174 : decode cX10_goesOff 174 = .ok (.invokevirtual 206, 3) := by decide +kernel
theorem dX10_goesOff_177 : decode cX10_goesOff 177 = .ok (.ireturn, 1) := by decide +kernel
theorem dX10_goesOff_178 : decode cX10_goesOff 178 = .ok (.aload_n 0, 1) := by decide +kernel
theorem dX10_goesOff_179 : decode cX10_goesOff 179 = .ok (.iload_n 1, 1) := by decide +kernel
theorem dX10_goesOff_180 : decode cX10_goesOff 180 = .ok (.iload 4, 2) := by decide +kernel
theorem dX10_goesOff_182 : decode cX10_goesOff 182 = .ok (.bipush 19, 2) := by decide +kernel
theorem dX10_goesOff_184 : decode cX10_goesOff 184 = .ok (.if_icmp .ne 7, 3) := by decide +kernel
theorem dX10_goesOff_187 : decode cX10_goesOff 187 = .ok (.iconst 2, 1) := by decide +kernel
theorem dX10_goesOff_188 : decode cX10_goesOff 188 = .ok (.goto 9, 3) := by decide +kernel
theorem dX10_goesOff_191 : decode cX10_goesOff 191 = .ok (.aload_n 0, 1) := by decide +kernel
theorem dX10_goesOff_192 : decode cX10_goesOff 192 = .ok (.getfield 16, 3) := by decide +kernel
theorem dX10_goesOff_195 : decode cX10_goesOff 195 = .ok (.iload_n 2, 1) := by decide +kernel
theorem dX10_goesOff_196 : decode cX10_goesOff 196 = .ok (.iaload, 1) := by decide +kernel
theorem dX10_goesOff_197 : decode cX10_goesOff 197 = .ok (.invokevirtual 209, 3) := by decide +kernel
theorem dX10_goesOff_200 : decode cX10_goesOff 200 = .ok (.istore 5, 2) := by decide +kernel
theorem dX10_goesOff_202 : decode cX10_goesOff 202 = .ok (.iload 5, 2) := by decide +kernel
theorem dX10_goesOff_204 : decode cX10_goesOff 204 = .ok (.ifCond .lt 34, 3) := by decide +kernel
theorem dX10_goesOff_207 : decode cX10_goesOff 207 = .ok (.aload_n 0, 1) := by decide +kernel
theorem dX10_goesOff_208 : decode cX10_goesOff 208 = .ok (.iload_n 2, 1) := by decide +kernel
theorem dX10_goesOff_209 : decode cX10_goesOff 209 = .ok (.iconst 0, 1) := by decide +kernel
theorem dX10_goesOff_210 : decode cX10_goesOff 210 = .ok (.iload_n 3, 1) := by decide +kernel
theorem dX10_goesOff_211 : decode cX10_goesOff 211 = .ok (.iconst 3, 1) := by decide +kernel
theorem dX10_goesOff_212 : decode cX10_goesOff 212 = .ok (.aload_n 0, 1) := by decide +kernel
theorem dX10_goesOff_213 : decode cX10_goesOff 213 = .ok (.getfield 70, 3) := by decide +kernel
theorem dX10_goesOff_216 : decode cX10_goesOff 216 = .ok (.iconst 3, 1) := by decide +kernel
theorem dX10_goesOff_217 : decode cX10_goesOff 217 = .ok (.iload_n 1, 1) := by decide +kernel
theorem dX10_goesOff_218 : decode cX10_goesOff 218 = .ok (.imul, 1) := by decide +kernel
theorem dX10_goesOff_219 : decode cX10_goesOff 219 = .ok (.iload 5, 2) := by decide +kernel
theorem dX10_goesOff_221 : decode cX10_goesOff 221 = .ok (.iadd, 1) := by decide +kernel
theorem dX10_goesOff_222 : decode cX10_goesOff 222 = .ok (.iaload, 1) := by decide +kernel
theorem dX10_goesOff_223 : decode cX10_goesOff 223 = .ok (.aload_n 0, 1) := by decide +kernel
theorem dX10_goesOff_224 : decode cX10_goesOff 224 = .ok (.getfield 73, 3) := by decide +kernel
theorem dX10_goesOff_227 : decode cX10_goesOff 227 = .ok (.iconst 3, 1) := by decide +kernel
theorem dX10_goesOff_228 : decode cX10_goesOff 228 = .ok (.iload_n 1, 1) := by decide +kernel
theorem dX10_goesOff_229 : decode cX10_goesOff 229 = .ok (.imul, 1) := by decide +kernel
theorem dX10_goesOff_230 : decode cX10_goesOff 230 = .ok (.iload 5, 2) := by decide +kernel
theorem dX10_goesOff_232 : decode cX10_goesOff 232 = .ok (.iadd, 1) := by decide +kernel
theorem dX10_goesOff_233 : decode cX10_goesOff 233 = .ok (.iaload, 1) := by decide +kernel
theorem dX10_goesOff_234 : decode cX10_goesOff 234 = .ok (.invokevirtual 182, 3) := by decide +kernel
theorem dX10_goesOff_237 : decode cX10_goesOff 237 = .ok (.ireturn, 1) := by decide +kernel
theorem dX10_goesOff_238 : decode cX10_goesOff 238 = .ok (.iload 4, 2) := by decide +kernel
theorem dX10_goesOff_240 : decode cX10_goesOff 240 = .ok (.bipush 9, 2) := by decide +kernel
theorem dX10_goesOff_242 : decode cX10_goesOff 242 = .ok (.if_icmp .le 10, 3) := by decide +kernel
theorem dX10_goesOff_245 : decode cX10_goesOff 245 = .ok (.iload 4, 2) := by decide +kernel
theorem dX10_goesOff_247 : decode cX10_goesOff 247 = .ok (.bipush 17, 2) := by decide +kernel
theorem dX10_goesOff_249 : decode cX10_goesOff 249 = .ok (.if_icmp .ne 11, 3) := by decide +kernel
theorem dX10_goesOff_252 : decode cX10_goesOff 252 = .ok (.aload_n 0, 1) := by decide +kernel
theorem dX10_goesOff_253 : decode cX10_goesOff 253 = .ok (.iload_n 1, 1) := by decide +kernel
theorem dX10_goesOff_254 : decode cX10_goesOff 254 = .ok (.iload 4, 2) := by decide +kernel
theorem dX10_goesOff_256 : decode cX10_goesOff 256 = .ok (.invokevirtual 212, 3) := by decide +kernel
theorem dX10_goesOff_259 : decode cX10_goesOff 259 = .ok (.ireturn, 1) := by decide +kernel
theorem dX10_goesOff_260 : decode cX10_goesOff 260 = .ok (.aload_n 0, 1) := by decide +kernel
theorem dX10_goesOff_261 : decode cX10_goesOff 261 = .ok (.iload_n 1, 1) := by decide +kernel
theorem dX10_goesOff_262 : decode cX10_goesOff 262 = .ok (.iload 4, 2) := by decide +kernel
theorem dX10_goesOff_264 : decode cX10_goesOff 264 = .ok (.invokevirtual 215, 3) := by decide +kernel
theorem dX10_goesOff_267 : decode cX10_goesOff 267 = .ok (.ireturn, 1) := by decide +kernel
set_option maxRecDepth 20000 in
theorem ggX10_switches_X10_kindAt : GoodIn wsX10_switches wsX10_kindAt := goodIn_r _ [7, 8, 52, 53, 54, 55, 56, 57, 58, 59, 60, 61, 62, 63, 64, 65, 66, 67, 68, 69, 70, 71, 72, 73, 74, 75, 76, 77, 78, 79, 80, 81, 82, 83, 84, 85, 86, 87, 88, 89, 90, 91, 92, 93, 94, 95, 96, 97, 98, 99, 100, 101, 102, 103, 104, 105, 106, 107, 108] (by decide +kernel) (by decide +kernel)
set_option maxRecDepth 20000 in
theorem gX10_switches_X10_kindAt : GoodIn wsX10_switches (wsV RX10 185 RX10 yX10_kindAt wsX10_kindAt) := goodIn_app (goodIn_of _ (by decide +kernel)) ggX10_switches_X10_kindAt
set_option maxRecDepth 20000 in
theorem ggX10_switches_X10_valueAt : GoodIn wsX10_switches wsX10_valueAt := goodIn_r _ [12, 13, 52, 53, 54, 55, 56, 57, 58, 59, 60, 61, 62, 63, 64, 65, 66, 67, 68, 69, 70, 71, 72, 73, 74, 75, 76, 77, 78, 79, 80, 81, 82, 83, 84, 85, 86, 87, 88, 89, 90, 91, 92, 93, 94, 95, 96, 97, 98, 99, 100, 101, 102, 103, 104, 105, 106, 107, 108] (by decide +kernel) (by decide +kernel)
set_option maxRecDepth 20000 in
theorem gX10_switches_X10_valueAt : GoodIn wsX10_switches (wsV RX10 221 RX10 yX10_valueAt wsX10_valueAt) := goodIn_app (goodIn_of _ (by decide +kernel)) ggX10_switches_X10_valueAt
set_option maxRecDepth 20000 in
theorem ggX10_switches_X10_passes : GoodIn wsX10_switches wsX10_passes := goodIn_r _ [17, 18, 8, 13, 19, 20, 21, 22, 6, 23, 24, 25, 26, 27, 28, 29, 30, 31, 32, 33, 34, 35, 36, 37, 38, 39, 40, 41, 42, 2, 43, 44, 45, 46, 47, 48, 49, 50, 51, 52, 53, 54, 55, 56, 57, 58, 59, 60, 61, 62, 63, 64, 65, 66, 67, 68, 69, 70, 71, 72, 73, 74, 75, 76, 77, 78, 79, 80, 81, 82, 83, 84, 85, 86, 87, 88, 89, 90, 91, 92, 93, 94, 95, 96, 97, 98, 99, 100, 101, 102, 103, 104, 105, 106, 107, 108] (by decide +kernel) (by decide +kernel)
set_option maxRecDepth 20000 in
theorem gX10_switches_X10_passes : GoodIn wsX10_switches (wsV RX10 188 RX10 yX10_passes wsX10_passes) := goodIn_app (goodIn_of _ (by decide +kernel)) ggX10_switches_X10_passes
theorem dX10_switches_0 : decode cX10_switches 0 = .ok (.aload_n 0, 1) := by decide +kernel
theorem dX10_switches_1 : decode cX10_switches 1 = .ok (.iload_n 1, 1) := by decide +kernel
theorem dX10_switches_2 : decode cX10_switches 2 = .ok (.iconst 1, 1) := by decide +kernel
theorem dX10_switches_3 : decode cX10_switches 3 = .ok (.invokevirtual 185, 3) := by decide +kernel
theorem dX10_switches_6 : decode cX10_switches 6 = .ok (.iconst 1, 1) := by decide +kernel
theorem dX10_switches_7 : decode cX10_switches 7 = .ok (.if_icmp .eq 15, 3) := by decide +kernel
theorem dX10_switches_10 : decode cX10_switches 10 = .ok (.aload_n 0, 1) := by decide +kernel
theorem dX10_switches_11 : decode cX10_switches 11 = .ok (.dup, 1) := by decide +kernel
theorem dX10_switches_12 : decode cX10_switches 12 = .ok (.getfield 218, 3) := by decide +kernel
theorem dX10_switches_15 : decode cX10_switches 15 = .ok (.iconst 1, 1) := by decide +kernel
theorem dX10_switches_16 : decode cX10_switches 16 = .ok (.iadd, 1) := by decide +kernel
theorem dX10_switches_17 : decode cX10_switches 17 = .ok (.putfield 218, 3) := by decide +kernel
theorem dX10_switches_20 : decode cX10_switches 20 = .ok (.iconst 1, 1) := by decide +kernel
theorem dX10_switches_21 : decode cX10_switches 21 = .ok (.ireturn, 1) := by decide +kernel
theorem dX10_switches_22 : decode cX10_switches 22 = .ok (.aload_n 0, 1) := by decide +kernel
theorem dX10_switches_23 : decode cX10_switches 23 = .ok (.iload_n 1, 1) := by decide +kernel
theorem dX10_switches_24 : decode cX10_switches 24 = .ok (.aload_n 0, 1) := by decide +kernel
theorem dX10_switches_25 : decode cX10_switches 25 = .ok (.iload_n 1, 1) := by decide +kernel
theorem dX10_switches_26 : decode cX10_switches 26 = .ok (.iconst 1, 1) := by decide +kernel
theorem dX10_switches_27 : decode cX10_switches 27 = .ok (.invokevirtual 221, 3) := by decide +kernel
theorem dX10_switches_30 : decode cX10_switches 30 = .ok (.ifCond .eq 7, 3) := by decide +kernel
theorem dX10_switches_33 : decode cX10_switches 33 = .ok (.iconst 0, 1) := by decide +kernel
theorem dX10_switches_34 : decode cX10_switches 34 = .ok (.goto 4, 3) := by decide +kernel
theorem dX10_switches_37 : decode cX10_switches 37 = .ok (.iconst 1, 1) := by decide +kernel
theorem dX10_switches_38 : decode cX10_switches 38 = .ok (.aload_n 0, 1) := by decide +kernel
theorem dX10_switches_39 : decode cX10_switches 39 = .ok (.getfield 55, 3) := by decide +kernel
theorem dX10_switches_42 : decode cX10_switches 42 = .ok (.iload_n 1, 1) := by decide +kernel
theorem dX10_switches_43 : decode cX10_switches 43 = .ok (.iaload, 1) := by decide +kernel
theorem dX10_switches_44 : decode cX10_switches 44 = .ok (.invokevirtual 188, 3) := by decide +kernel
theorem dX10_switches_47 : decode cX10_switches 47 = .ok (.ireturn, 1) := by decide +kernel
set_option maxRecDepth 20000 in
theorem ggX10_loops_X10_colour : GoodIn wsX10_loops wsX10_colour := goodIn_r _ [13, 14, 5, 6, 8, 7, 15, 16, 17, 12, 18, 19, 20, 21, 58, 59, 60, 61, 62, 63, 64, 65, 66, 67, 68, 69, 70, 71, 72, 73, 74, 75, 76, 77, 78, 79, 80, 81, 82, 83, 84, 85, 86, 87, 88, 89, 90, 91, 92, 93, 94, 95, 96, 97, 98, 99, 100, 101, 102, 103, 104, 105, 106, 107, 108, 109, 110, 111, 112, 113, 114] (by decide +kernel) (by decide +kernel)
set_option maxRecDepth 20000 in
theorem gX10_loops_X10_colour : GoodIn wsX10_loops (wsV RX10 224 RX10 yX10_colour wsX10_colour) := goodIn_app (goodIn_of _ (by decide +kernel)) ggX10_loops_X10_colour
set_option maxRecDepth 20000 in
theorem ggX10_loops_X10_passes : GoodIn wsX10_loops wsX10_passes := goodIn_r _ [25, 1, 26, 27, 28, 29, 30, 31, 12, 32, 33, 34, 35, 36, 37, 38, 39, 40, 41, 42, 43, 44, 45, 46, 47, 48, 49, 50, 51, 2, 52, 53, 15, 16, 17, 18, 19, 20, 21, 58, 59, 60, 61, 62, 63, 64, 65, 66, 67, 68, 69, 70, 71, 72, 73, 74, 75, 76, 77, 78, 79, 80, 81, 82, 83, 84, 85, 86, 87, 88, 89, 90, 91, 92, 93, 94, 95, 96, 97, 98, 99, 100, 101, 102, 103, 104, 105, 106, 107, 108, 109, 110, 111, 112, 113, 114] (by decide +kernel) (by decide +kernel)
set_option maxRecDepth 20000 in
theorem gX10_loops_X10_passes : GoodIn wsX10_loops (wsV RX10 188 RX10 yX10_passes wsX10_passes) := goodIn_app (goodIn_of _ (by decide +kernel)) ggX10_loops_X10_passes
set_option maxRecDepth 20000 in
theorem ggX10_loops_X10_faults : GoodIn wsX10_loops wsX10_faults := goodIn_r _ [57, 29, 30, 31, 12, 32, 33, 34, 35, 36, 37, 38, 39, 40, 41, 42, 26, 27, 28, 43, 44, 45, 46, 47, 48, 49, 50, 51, 2, 52, 53, 1, 15, 16, 17, 18, 19, 20, 21, 58, 59, 60, 61, 62, 63, 64, 65, 66, 67, 68, 69, 70, 71, 72, 73, 74, 75, 76, 77, 78, 79, 80, 81, 82, 83, 84, 85, 86, 87, 88, 89, 90, 91, 92, 93, 94, 95, 96, 97, 98, 99, 100, 101, 102, 103, 104, 105, 106, 107, 108, 109, 110, 111, 112, 113, 114] (by decide +kernel) (by decide +kernel)
set_option maxRecDepth 20000 in
theorem gX10_loops_X10_faults : GoodIn wsX10_loops (wsV RX10 228 RX10 yX10_faults wsX10_faults) := goodIn_app (goodIn_of _ (by decide +kernel)) ggX10_loops_X10_faults
theorem dX10_loops_0 : decode cX10_loops 0 = .ok (.aload_n 0, 1) := by decide +kernel
theorem dX10_loops_1 : decode cX10_loops 1 = .ok (.getfield 52, 3) := by decide +kernel
theorem dX10_loops_4 : decode cX10_loops 4 = .ok (.iload_n 1, 1) := by decide +kernel
theorem dX10_loops_5 : decode cX10_loops 5 = .ok (.iaload, 1) := by decide +kernel
theorem dX10_loops_6 : decode cX10_loops 6 = .ok (.istore_n 2, 1) := by decide +kernel
theorem dX10_loops_7 : decode cX10_loops 7 = .ok (.aload_n 0, 1) := by decide +kernel
theorem dX10_loops_8 : decode cX10_loops 8 = .ok (.getfield 55, 3) := by decide +kernel
theorem dX10_loops_11 : decode cX10_loops 11 = .ok (.iload_n 1, 1) := by decide +kernel
theorem dX10_loops_12 : decode cX10_loops 12 = .ok (.iaload, 1) := by decide +kernel
theorem dX10_loops_13 : decode cX10_loops 13 = .ok (.istore_n 3, 1) := by decide +kernel
theorem dX10_loops_14 : decode cX10_loops 14 = .ok (.aload_n 0, 1) := by decide +kernel
theorem dX10_loops_15 : decode cX10_loops 15 = .ok (.getfield 13, 3) := by decide +kernel
theorem dX10_loops_18 : decode cX10_loops 18 = .ok (.iload_n 2, 1) := by decide +kernel
theorem dX10_loops_19 : decode cX10_loops 19 = .ok (.iaload, 1) := by decide +kernel
theorem dX10_loops_20 : decode cX10_loops 20 = .ok (.istore 4, 2) := by decide +kernel
theorem dX10_loops_22 : decode cX10_loops 22 = .ok (.aload_n 0, 1) := by decide +kernel
theorem dX10_loops_23 : decode cX10_loops 23 = .ok (.getfield 7, 3) := by decide +kernel
theorem dX10_loops_26 : decode cX10_loops 26 = .ok (.iload_n 2, 1) := by decide +kernel
theorem dX10_loops_27 : decode cX10_loops 27 = .ok (.iaload, 1) := by decide +kernel
theorem dX10_loops_28 : decode cX10_loops 28 = .ok (.bipush 11, 2) := by decide +kernel
theorem dX10_loops_30 : decode cX10_loops 30 = .ok (.if_icmp .ne 36, 3) := by decide +kernel
theorem dX10_loops_33 : decode cX10_loops 33 = .ok (.aload_n 0, 1) := by decide +kernel
theorem dX10_loops_34 : decode cX10_loops 34 = .ok (.iconst 1, 1) := by decide +kernel
theorem dX10_loops_35 : decode cX10_loops 35 = .ok (.iload 4, 2) := by decide +kernel
theorem dX10_loops_37 : decode cX10_loops 37 = .ok (.iconst 0, 1) := by decide +kernel
theorem dX10_loops_38 : decode cX10_loops 38 = .ok (.iload_n 3, 1) := by decide +kernel
theorem dX10_loops_39 : decode cX10_loops 39 = .ok (.invokevirtual 224, 3) := by decide +kernel
theorem dX10_loops_42 : decode cX10_loops 42 = .ok (.istore 5, 2) := by decide +kernel
theorem dX10_loops_44 : decode cX10_loops 44 = .ok (.iload 5, 2) := by decide +kernel
theorem dX10_loops_46 : decode cX10_loops 46 = .ok (.ifCond .lt 18, 3) := by decide +kernel
theorem dX10_loops_49 : decode cX10_loops 49 = .ok (.aload_n 0, 1) := by decide +kernel
theorem dX10_loops_50 : decode cX10_loops 50 = .ok (.iload_n 1, 1) := by decide +kernel
theorem dX10_loops_51 : decode cX10_loops 51 = .ok (.iconst 0, 1) := by decide +kernel
theorem dX10_loops_52 : decode cX10_loops 52 = .ok (.iload 5, 2) := by decide +kernel
theorem dX10_loops_54 : decode cX10_loops 54 = .ok (.invokevirtual 188, 3) := by decide +kernel
theorem dX10_loops_57 : decode cX10_loops 57 = .ok (.ifCond .eq 7, 3) := by decide +kernel
theorem dX10_loops_60 : decode cX10_loops 60 = .ok (.iconst 1, 1) := by decide +kernel
theorem dX10_loops_61 : decode cX10_loops 61 = .ok (.goto 4, 3) := by decide +kernel
theorem dX10_loops_64 : decode cX10_loops 64 = .ok (.iconst 0, 1) := by decide +kernel
theorem dX10_loops_65 : decode cX10_loops 65 = .ok (.ireturn, 1) := by decide +kernel
theorem dX10_loops_66 : decode cX10_loops 66 = .ok (.aload_n 0, 1) := by decide +kernel
theorem dX10_loops_67 : decode cX10_loops 67 = .ok (.getfield 40, 3) := by decide +kernel
theorem dX10_loops_70 : decode cX10_loops 70 = .ok (.iload_n 3, 1) := by decide +kernel
theorem dX10_loops_71 : decode cX10_loops 71 = .ok (.iaload, 1) := by decide +kernel
theorem dX10_loops_72 : decode cX10_loops 72 = .ok (.iconst 1, 1) := by decide +kernel
theorem dX10_loops_73 : decode cX10_loops 73 = .ok (.if_icmp .ne 14, 3) := by decide +kernel
theorem dX10_loops_76 : decode cX10_loops 76 = .ok (.aload_n 0, 1) := by decide +kernel
theorem dX10_loops_77 : decode cX10_loops 77 = .ok (.getfield 43, 3) := by decide +kernel
theorem dX10_loops_80 : decode cX10_loops 80 = .ok (.iload_n 3, 1) := by decide +kernel
theorem dX10_loops_81 : decode cX10_loops 81 = .ok (.iaload, 1) := by decide +kernel
theorem dX10_loops_82 : decode cX10_loops 82 = .ok (.iload 4, 2) := by decide +kernel
theorem dX10_loops_84 : decode cX10_loops 84 = .ok (.if_icmp .eq 11, 3) := by decide +kernel
theorem dX10_loops_87 : decode cX10_loops 87 = .ok (.aload_n 0, 1) := by decide +kernel
theorem dX10_loops_88 : decode cX10_loops 88 = .ok (.iload_n 2, 1) := by decide +kernel
theorem dX10_loops_89 : decode cX10_loops 89 = .ok (.iload_n 3, 1) := by decide +kernel
theorem dX10_loops_90 : decode cX10_loops 90 = .ok (.iconst 5, 1) := by decide +kernel
theorem dX10_loops_91 : decode cX10_loops 91 = .ok (.invokevirtual 228, 3) := by decide +kernel
theorem dX10_loops_94 : decode cX10_loops 94 = .ok (.ireturn, 1) := by decide +kernel
theorem dX10_loops_95 : decode cX10_loops 95 = .ok (.aload_n 0, 1) := by decide +kernel
theorem dX10_loops_96 : decode cX10_loops 96 = .ok (.getfield 7, 3) := by decide +kernel
theorem dX10_loops_99 : decode cX10_loops 99 = .ok (.iload_n 2, 1) := by decide +kernel
theorem dX10_loops_100 : decode cX10_loops 100 = .ok (.iaload, 1) := by decide +kernel
theorem dX10_loops_101 : decode cX10_loops 101 = .ok (.bipush 13, 2) := by decide +kernel
theorem dX10_loops_103 : decode cX10_loops 103 = .ok (.if_icmp .ne 16, 3) := by decide +kernel
theorem dX10_loops_106 : decode cX10_loops 106 = .ok (.aload_n 0, 1) := by decide +kernel
theorem dX10_loops_107 : decode cX10_loops 107 = .ok (.iload_n 1, 1) := by decide +kernel
theorem dX10_loops_108 : decode cX10_loops 108 = .ok (.iconst 0, 1) := by decide +kernel
theorem dX10_loops_109 : decode cX10_loops 109 = .ok (.aload_n 0, 1) := by decide +kernel
theorem dX10_loops_110 : decode cX10_loops 110 = .ok (.getfield 49, 3) := by decide +kernel
theorem dX10_loops_113 : decode cX10_loops 113 = .ok (.iload_n 3, 1) := by decide +kernel
theorem dX10_loops_114 : decode cX10_loops 114 = .ok (.iaload, 1) := by decide +kernel
theorem dX10_loops_115 : decode cX10_loops 115 = .ok (.invokevirtual 188, 3) := by decide +kernel
theorem dX10_loops_118 : decode cX10_loops 118 = .ok (.ireturn, 1) := by decide +kernel
theorem dX10_loops_119 : decode cX10_loops 119 = .ok (.aload_n 0, 1) := by decide +kernel
theorem dX10_loops_120 : decode cX10_loops 120 = .ok (.iconst 1, 1) := by decide +kernel
theorem dX10_loops_121 : decode cX10_loops 121 = .ok (.iload 4, 2) := by decide +kernel
theorem dX10_loops_123 : decode cX10_loops 123 = .ok (.aload_n 0, 1) := by decide +kernel
theorem dX10_loops_124 : decode cX10_loops 124 = .ok (.getfield 46, 3) := by decide +kernel
theorem dX10_loops_127 : decode cX10_loops 127 = .ok (.iload_n 3, 1) := by decide +kernel
theorem dX10_loops_128 : decode cX10_loops 128 = .ok (.iaload, 1) := by decide +kernel
theorem dX10_loops_129 : decode cX10_loops 129 = .ok (.iconst 1, 1) := by decide +kernel
theorem dX10_loops_130 : decode cX10_loops 130 = .ok (.iadd, 1) := by decide +kernel
theorem dX10_loops_131 : decode cX10_loops 131 = .ok (.aload_n 0, 1) := by decide +kernel
theorem dX10_loops_132 : decode cX10_loops 132 = .ok (.getfield 49, 3) := by decide +kernel
theorem dX10_loops_135 : decode cX10_loops 135 = .ok (.iload_n 3, 1) := by decide +kernel
theorem dX10_loops_136 : decode cX10_loops 136 = .ok (.iaload, 1) := by decide +kernel
theorem dX10_loops_137 : decode cX10_loops 137 = .ok (.invokevirtual 224, 3) := by decide +kernel
theorem dX10_loops_140 : decode cX10_loops 140 = .ok (.istore 5, 2) := by decide +kernel
theorem dX10_loops_142 : decode cX10_loops 142 = .ok (.iload 5, 2) := by decide +kernel
theorem dX10_loops_144 : decode cX10_loops 144 = .ok (.ifCond .lt 18, 3) := by decide +kernel
theorem dX10_loops_147 : decode cX10_loops 147 = .ok (.aload_n 0, 1) := by decide +kernel
theorem dX10_loops_148 : decode cX10_loops 148 = .ok (.iload_n 1, 1) := by decide +kernel
theorem dX10_loops_149 : decode cX10_loops 149 = .ok (.iconst 0, 1) := by decide +kernel
theorem dX10_loops_150 : decode cX10_loops 150 = .ok (.iload 5, 2) := by decide +kernel
theorem dX10_loops_152 : decode cX10_loops 152 = .ok (.invokevirtual 188, 3) := by decide +kernel
theorem dX10_loops_155 : decode cX10_loops 155 = .ok (.ifCond .eq 7, 3) := by decide +kernel
theorem dX10_loops_158 : decode cX10_loops 158 = .ok (.iconst 1, 1) := by decide +kernel
theorem dX10_loops_159 : decode cX10_loops 159 = .ok (.goto 4, 3) := by decide +kernel
theorem dX10_loops_162 : decode cX10_loops 162 = .ok (.iconst 0, 1) := by decide +kernel
theorem dX10_loops_163 : decode cX10_loops 163 = .ok (.ireturn, 1) := by decide +kernel
set_option maxRecDepth 20000 in
theorem ggX10_calls_X10_colour : GoodIn wsX10_calls wsX10_colour := goodIn_r _ [14, 15, 16, 17, 18, 19, 20, 21, 22, 13, 23, 24, 25, 26, 42, 43, 44, 45, 46, 47, 48, 49, 50, 51, 52, 53, 54, 55, 56, 57, 58, 59, 60, 61, 62, 63, 64, 65, 66, 67, 68, 69, 70, 71, 72, 73, 74, 75, 76, 77, 78, 79, 80, 81, 82, 83, 84, 85, 86, 87, 88, 89, 90, 91, 92, 93, 94, 95, 96, 97, 98] (by decide +kernel) (by decide +kernel)
set_option maxRecDepth 20000 in
theorem gX10_calls_X10_colour : GoodIn wsX10_calls (wsV RX10 224 RX10 yX10_colour wsX10_colour) := goodIn_app (goodIn_of _ (by decide +kernel)) ggX10_calls_X10_colour
set_option maxRecDepth 20000 in
theorem ggX10_calls_X10_comes : GoodIn wsX10_calls wsX10_comes := goodIn_r _ [30, 31, 7, 8, 9, 3, 32, 33, 34, 35, 36, 37, 13, 38, 39, 2, 40, 41, 1, 20, 21, 22, 23, 24, 25, 26, 42, 43, 44, 45, 46, 47, 48, 49, 50, 51, 52, 53, 54, 55, 56, 57, 58, 59, 60, 61, 62, 63, 64, 65, 66, 67, 68, 69, 70, 71, 72, 73, 74, 75, 76, 77, 78, 79, 80, 81, 82, 83, 84, 85, 86, 87, 88, 89, 90, 91, 92, 93, 94, 95, 96, 97, 98] (by decide +kernel) (by decide +kernel)
set_option maxRecDepth 20000 in
theorem gX10_calls_X10_comes : GoodIn wsX10_calls (wsV RX10 178 RX10 yX10_comes wsX10_comes) := goodIn_app (goodIn_of _ (by decide +kernel)) ggX10_calls_X10_comes
theorem dX10_calls_0 : decode cX10_calls 0 = .ok (.aload_n 0, 1) := by decide +kernel
theorem dX10_calls_1 : decode cX10_calls 1 = .ok (.getfield 52, 3) := by decide +kernel
theorem dX10_calls_4 : decode cX10_calls 4 = .ok (.iload_n 1, 1) := by decide +kernel
theorem dX10_calls_5 : decode cX10_calls 5 = .ok (.iaload, 1) := by decide +kernel
theorem dX10_calls_6 : decode cX10_calls 6 = .ok (.istore_n 2, 1) := by decide +kernel
theorem dX10_calls_7 : decode cX10_calls 7 = .ok (.aload_n 0, 1) := by decide +kernel
theorem dX10_calls_8 : decode cX10_calls 8 = .ok (.iconst 2, 1) := by decide +kernel
theorem dX10_calls_9 : decode cX10_calls 9 = .ok (.iload_n 2, 1) := by decide +kernel
theorem dX10_calls_10 : decode cX10_calls 10 = .ok (.iconst 0, 1) := by decide +kernel
theorem dX10_calls_11 : decode cX10_calls 11 = .ok (.aload_n 0, 1) := by decide +kernel
theorem dX10_calls_12 : decode cX10_calls 12 = .ok (.getfield 55, 3) := by decide +kernel
theorem dX10_calls_15 : decode cX10_calls 15 = .ok (.iload_n 1, 1) := by decide +kernel
theorem dX10_calls_16 : decode cX10_calls 16 = .ok (.iaload, 1) := by decide +kernel
theorem dX10_calls_17 : decode cX10_calls 17 = .ok (.invokevirtual 224, 3) := by decide +kernel
theorem dX10_calls_20 : decode cX10_calls 20 = .ok (.istore_n 3, 1) := by decide +kernel
theorem dX10_calls_21 : decode cX10_calls 21 = .ok (.iload_n 3, 1) := by decide +kernel
theorem dX10_calls_22 : decode cX10_calls 22 = .ok (.ifCond .ge 5, 3) := by decide +kernel
theorem dX10_calls_25 : decode cX10_calls 25 = .ok (.iconst 0, 1) := by decide +kernel
theorem dX10_calls_26 : decode cX10_calls 26 = .ok (.ireturn, 1) := by decide +kernel
theorem dX10_calls_27 : decode cX10_calls 27 = .ok (.iconst 0, 1) := by decide +kernel
theorem dX10_calls_28 : decode cX10_calls 28 = .ok (.istore 4, 2) := by decide +kernel
theorem dX10_calls_30 : decode cX10_calls 30 = .ok (.iload 4, 2) := by decide +kernel
theorem dX10_calls_32 : decode cX10_calls 32 = .ok (.aload_n 0, 1) := by decide +kernel
theorem dX10_calls_33 : decode cX10_calls 33 = .ok (.getfield 16, 3) := by decide +kernel
theorem dX10_calls_36 : decode cX10_calls 36 = .ok (.iload_n 2, 1) := by decide +kernel
theorem dX10_calls_37 : decode cX10_calls 37 = .ok (.iaload, 1) := by decide +kernel
theorem dX10_calls_38 : decode cX10_calls 38 = .ok (.if_icmp .ge 116, 3) := by decide +kernel
theorem dX10_calls_41 : decode cX10_calls 41 = .ok (.iconst 0, 1) := by decide +kernel
theorem dX10_calls_42 : decode cX10_calls 42 = .ok (.istore 5, 2) := by decide +kernel
theorem dX10_calls_44 : decode cX10_calls 44 = .ok (.iload 5, 2) := by decide +kernel
theorem dX10_calls_46 : decode cX10_calls 46 = .ok (.aload_n 0, 1) := by decide +kernel
theorem dX10_calls_47 : decode cX10_calls 47 = .ok (.getfield 127, 3) := by decide +kernel
theorem dX10_calls_50 : decode cX10_calls 50 = .ok (.if_icmp .ge 43, 3) := by decide +kernel
theorem dX10_calls_53 : decode cX10_calls 53 = .ok (.aload_n 0, 1) := by decide +kernel
theorem dX10_calls_54 : decode cX10_calls 54 = .ok (.getfield 7, 3) := by decide +kernel
theorem dX10_calls_57 : decode cX10_calls 57 = .ok (.iload 5, 2) := by decide +kernel
theorem dX10_calls_59 : decode cX10_calls 59 = .ok (.iaload, 1) := by decide +kernel
theorem dX10_calls_60 : decode cX10_calls 60 = .ok (.bipush 15, 2) := by decide +kernel
theorem dX10_calls_62 : decode cX10_calls 62 = .ok (.if_icmp .ne 25, 3) := by decide +kernel
theorem dX10_calls_65 : decode cX10_calls 65 = .ok (.aload_n 0, 1) := by decide +kernel
theorem dX10_calls_66 : decode cX10_calls 66 = .ok (.getfield 13, 3) := by decide +kernel
theorem dX10_calls_69 : decode cX10_calls 69 = .ok (.iload 5, 2) := by decide +kernel
theorem dX10_calls_71 : decode cX10_calls 71 = .ok (.iaload, 1) := by decide +kernel
theorem dX10_calls_72 : decode cX10_calls 72 = .ok (.bipush 10, 2) := by decide +kernel
theorem dX10_calls_74 : decode cX10_calls 74 = .ok (.aload_n 0, 1) := by decide +kernel
theorem dX10_calls_75 : decode cX10_calls 75 = .ok (.getfield 13, 3) := by decide +kernel
theorem dX10_calls_78 : decode cX10_calls 78 = .ok (.iload_n 2, 1) := by decide +kernel
theorem dX10_calls_79 : decode cX10_calls 79 = .ok (.iaload, 1) := by decide +kernel
theorem dX10_calls_80 : decode cX10_calls 80 = .ok (.imul, 1) := by decide +kernel
theorem dX10_calls_81 : decode cX10_calls 81 = .ok (.iload 4, 2) := by decide +kernel
theorem dX10_calls_83 : decode cX10_calls 83 = .ok (.iadd, 1) := by decide +kernel
theorem dX10_calls_84 : decode cX10_calls 84 = .ok (.if_icmp .eq 9, 3) := by decide +kernel
theorem dX10_calls_87 : decode cX10_calls 87 = .ok (.iinc 5 1, 3) := by decide +kernel
theorem dX10_calls_90 : decode cX10_calls 90 = .ok (.goto (-46), 3) := by decide +kernel
theorem dX10_calls_93 : decode cX10_calls 93 = .ok (.iload 5, 2) := by decide +kernel
theorem dX10_calls_95 : decode cX10_calls 95 = .ok (.aload_n 0, 1) := by decide +kernel
theorem dX10_calls_96 : decode cX10_calls 96 = .ok (.getfield 127, 3) := by decide +kernel
theorem dX10_calls_99 : decode cX10_calls 99 = .ok (.if_icmp .ge 49, 3) := by decide +kernel
theorem dX10_calls_102 : decode cX10_calls 102 = .ok (.aload_n 0, 1) := by decide +kernel
theorem dX10_calls_103 : decode cX10_calls 103 = .ok (.iload 5, 2) := by decide +kernel
theorem dX10_calls_105 : decode cX10_calls 105 = .ok (.iconst 0, 1) := by decide +kernel
theorem dX10_calls_106 : decode cX10_calls 106 = .ok (.iload_n 3, 1) := by decide +kernel
theorem dX10_calls_107 : decode cX10_calls 107 = .ok (.aload_n 0, 1) := by decide +kernel
theorem dX10_calls_108 : decode cX10_calls 108 = .ok (.getfield 67, 3) := by decide +kernel
theorem dX10_calls_111 : decode cX10_calls 111 = .ok (.iconst 3, 1) := by decide +kernel
theorem dX10_calls_112 : decode cX10_calls 112 = .ok (.iload_n 1, 1) := by decide +kernel
theorem dX10_calls_113 : decode cX10_calls 113 = .ok (.imul, 1) := by decide +kernel
theorem dX10_calls_114 : decode cX10_calls 114 = .ok (.iload 4, 2) := by decide +kernel
theorem dX10_calls_116 : decode cX10_calls 116 = .ok (.iadd, 1) := by decide +kernel
theorem dX10_calls_117 : decode cX10_calls 117 = .ok (.iaload, 1) := by decide +kernel
theorem dX10_calls_118 : decode cX10_calls 118 = .ok (.aload_n 0, 1) := by decide +kernel
theorem dX10_calls_119 : decode cX10_calls 119 = .ok (.getfield 70, 3) := by decide +kernel
theorem dX10_calls_122 : decode cX10_calls 122 = .ok (.iconst 3, 1) := by decide +kernel
theorem dX10_calls_123 : decode cX10_calls 123 = .ok (.iload_n 1, 1) := by decide +kernel
theorem dX10_calls_124 : decode cX10_calls 124 = .ok (.imul, 1) := by decide +kernel
theorem dX10_calls_125 : decode cX10_calls 125 = .ok (.iload 4, 2) := by decide +kernel
theorem dX10_calls_127 : decode cX10_calls 127 = .ok (.iadd, 1) := by decide +kernel
theorem dX10_calls_128 : decode cX10_calls 128 = .ok (.iaload, 1) := by decide +kernel
theorem dX10_calls_129 : decode cX10_calls 129 = .ok (.aload_n 0, 1) := by decide +kernel
theorem dX10_calls_130 : decode cX10_calls 130 = .ok (.getfield 73, 3) := by decide +kernel
theorem dX10_calls_133 : decode cX10_calls 133 = .ok (.iconst 3, 1) := by decide +kernel
theorem dX10_calls_134 : decode cX10_calls 134 = .ok (.iload_n 1, 1) := by decide +kernel
theorem dX10_calls_135 : decode cX10_calls 135 = .ok (.imul, 1) := by decide +kernel
theorem dX10_calls_136 : decode cX10_calls 136 = .ok (.iload 4, 2) := by decide +kernel
theorem dX10_calls_138 : decode cX10_calls 138 = .ok (.iadd, 1) := by decide +kernel
theorem dX10_calls_139 : decode cX10_calls 139 = .ok (.iaload, 1) := by decide +kernel
theorem dX10_calls_140 : decode cX10_calls 140 = .ok (.invokevirtual 178, 3) := by decide +kernel
theorem dX10_calls_143 : decode cX10_calls 143 = .ok (.ifCond .ne 5, 3) := by decide +kernel
theorem dX10_calls_146 : decode cX10_calls 146 = .ok (.iconst 0, 1) := by decide +kernel
theorem dX10_calls_147 : decode cX10_calls 147 = .ok (.ireturn, 1) := by decide +kernel
theorem dX10_calls_148 : decode cX10_calls 148 = .ok (.iinc 4 1, 3) := by decide +kernel
theorem dX10_calls_151 : decode cX10_calls 151 = .ok (.goto (-121), 3) := by decide +kernel
theorem dX10_calls_154 : decode cX10_calls 154 = .ok (.iconst 1, 1) := by decide +kernel
theorem dX10_calls_155 : decode cX10_calls 155 = .ok (.ireturn, 1) := by decide +kernel
set_option maxRecDepth 20000 in
theorem ggX10_returns_X10_gives : GoodIn wsX10_returns wsX10_gives := goodIn_r _ [13, 14, 15, 16, 17, 18, 19, 20, 21, 12, 22, 23, 6, 7, 8, 24, 25, 26, 27, 28, 29, 30, 31, 32, 1, 33, 34, 35, 36, 37, 38, 39, 40, 41, 42, 43, 44, 45, 46, 47, 48, 49, 50, 51, 52, 53, 54, 55, 56, 57, 58, 59, 60, 61, 62, 63, 64, 65, 66, 67, 68, 69, 70, 71, 72, 73, 74, 75, 76, 77, 78, 79, 80, 81, 82, 83, 84, 85, 86, 87, 88, 89, 90, 91, 92, 93, 94, 95, 96, 97, 98, 99] (by decide +kernel) (by decide +kernel)
set_option maxRecDepth 20000 in
theorem gX10_returns_X10_gives : GoodIn wsX10_returns (wsV RX10 182 RX10 yX10_gives wsX10_gives) := goodIn_app (goodIn_of _ (by decide +kernel)) ggX10_returns_X10_gives
theorem dX10_returns_0 : decode cX10_returns 0 = .ok (.aload_n 0, 1) := by decide +kernel
theorem dX10_returns_1 : decode cX10_returns 1 = .ok (.getfield 55, 3) := by decide +kernel
theorem dX10_returns_4 : decode cX10_returns 4 = .ok (.iload_n 1, 1) := by decide +kernel
theorem dX10_returns_5 : decode cX10_returns 5 = .ok (.iaload, 1) := by decide +kernel
theorem dX10_returns_6 : decode cX10_returns 6 = .ok (.istore_n 2, 1) := by decide +kernel
theorem dX10_returns_7 : decode cX10_returns 7 = .ok (.aload_n 0, 1) := by decide +kernel
theorem dX10_returns_8 : decode cX10_returns 8 = .ok (.getfield 40, 3) := by decide +kernel
theorem dX10_returns_11 : decode cX10_returns 11 = .ok (.iload_n 2, 1) := by decide +kernel
theorem dX10_returns_12 : decode cX10_returns 12 = .ok (.iaload, 1) := by decide +kernel
theorem dX10_returns_13 : decode cX10_returns 13 = .ok (.iconst 2, 1) := by decide +kernel
theorem dX10_returns_14 : decode cX10_returns 14 = .ok (.if_icmp .eq 15, 3) := by decide +kernel
theorem dX10_returns_17 : decode cX10_returns 17 = .ok (.aload_n 0, 1) := by decide +kernel
theorem dX10_returns_18 : decode cX10_returns 18 = .ok (.dup, 1) := by decide +kernel
theorem dX10_returns_19 : decode cX10_returns 19 = .ok (.getfield 218, 3) := by decide +kernel
theorem dX10_returns_22 : decode cX10_returns 22 = .ok (.iconst 1, 1) := by decide +kernel
theorem dX10_returns_23 : decode cX10_returns 23 = .ok (.iadd, 1) := by decide +kernel
theorem dX10_returns_24 : decode cX10_returns 24 = .ok (.putfield 218, 3) := by decide +kernel
theorem dX10_returns_27 : decode cX10_returns 27 = .ok (.iconst 1, 1) := by decide +kernel
theorem dX10_returns_28 : decode cX10_returns 28 = .ok (.ireturn, 1) := by decide +kernel
theorem dX10_returns_29 : decode cX10_returns 29 = .ok (.aload_n 0, 1) := by decide +kernel
theorem dX10_returns_30 : decode cX10_returns 30 = .ok (.aload_n 0, 1) := by decide +kernel
theorem dX10_returns_31 : decode cX10_returns 31 = .ok (.getfield 43, 3) := by decide +kernel
theorem dX10_returns_34 : decode cX10_returns 34 = .ok (.iload_n 2, 1) := by decide +kernel
theorem dX10_returns_35 : decode cX10_returns 35 = .ok (.iaload, 1) := by decide +kernel
theorem dX10_returns_36 : decode cX10_returns 36 = .ok (.iconst 0, 1) := by decide +kernel
theorem dX10_returns_37 : decode cX10_returns 37 = .ok (.aload_n 0, 1) := by decide +kernel
theorem dX10_returns_38 : decode cX10_returns 38 = .ok (.getfield 49, 3) := by decide +kernel
theorem dX10_returns_41 : decode cX10_returns 41 = .ok (.iload_n 2, 1) := by decide +kernel
theorem dX10_returns_42 : decode cX10_returns 42 = .ok (.iaload, 1) := by decide +kernel
theorem dX10_returns_43 : decode cX10_returns 43 = .ok (.aload_n 0, 1) := by decide +kernel
theorem dX10_returns_44 : decode cX10_returns 44 = .ok (.getfield 67, 3) := by decide +kernel
theorem dX10_returns_47 : decode cX10_returns 47 = .ok (.iconst 3, 1) := by decide +kernel
theorem dX10_returns_48 : decode cX10_returns 48 = .ok (.iload_n 1, 1) := by decide +kernel
theorem dX10_returns_49 : decode cX10_returns 49 = .ok (.imul, 1) := by decide +kernel
theorem dX10_returns_50 : decode cX10_returns 50 = .ok (.iaload, 1) := by decide +kernel
theorem dX10_returns_51 : decode cX10_returns 51 = .ok (.aload_n 0, 1) := by decide +kernel
theorem dX10_returns_52 : decode cX10_returns 52 = .ok (.getfield 70, 3) := by decide +kernel
theorem dX10_returns_55 : decode cX10_returns 55 = .ok (.iconst 3, 1) := by decide +kernel
theorem dX10_returns_56 : decode cX10_returns 56 = .ok (.iload_n 1, 1) := by decide +kernel
theorem dX10_returns_57 : decode cX10_returns 57 = .ok (.imul, 1) := by decide +kernel
theorem dX10_returns_58 : decode cX10_returns 58 = .ok (.iaload, 1) := by decide +kernel
theorem dX10_returns_59 : decode cX10_returns 59 = .ok (.aload_n 0, 1) := by decide +kernel
theorem dX10_returns_60 : decode cX10_returns 60 = .ok (.getfield 73, 3) := by decide +kernel
theorem dX10_returns_63 : decode cX10_returns 63 = .ok (.iconst 3, 1) := by decide +kernel
theorem dX10_returns_64 : decode cX10_returns 64 = .ok (.iload_n 1, 1) := by decide +kernel
theorem dX10_returns_65 : decode cX10_returns 65 = .ok (.imul, 1) := by decide +kernel
theorem dX10_returns_66 : decode cX10_returns 66 = .ok (.iaload, 1) := by decide +kernel
theorem dX10_returns_67 : decode cX10_returns 67 = .ok (.invokevirtual 182, 3) := by decide +kernel
theorem dX10_returns_70 : decode cX10_returns 70 = .ok (.ireturn, 1) := by decide +kernel
set_option maxRecDepth 20000 in
theorem ggX10_ends_X10_stops : GoodIn wsX10_ends wsX10_stops := goodIn_r _ [15, 16, 17, 18, 19, 20, 21, 22, 23, 24, 25, 26, 27, 28, 29, 30, 31, 32, 33, 34, 35, 36, 37, 38, 39, 40, 41, 42, 43, 44, 45, 46, 47, 48, 49, 50, 51, 52, 53, 54, 55, 56, 57, 58, 59, 60, 61, 62, 63, 64, 65, 66, 67, 68, 69, 70, 71, 72, 73, 74, 75] (by decide +kernel) (by decide +kernel)
set_option maxRecDepth 20000 in
theorem gX10_ends_X10_stops : GoodIn wsX10_ends (wsV RX10 165 RX10 yX10_stops wsX10_stops) := goodIn_app (goodIn_of _ (by decide +kernel)) ggX10_ends_X10_stops
theorem dX10_ends_0 : decode cX10_ends 0 = .ok (.aload_n 0, 1) := by decide +kernel
theorem dX10_ends_1 : decode cX10_ends 1 = .ok (.getfield 13, 3) := by decide +kernel
theorem dX10_ends_4 : decode cX10_ends 4 = .ok (.aload_n 0, 1) := by decide +kernel
theorem dX10_ends_5 : decode cX10_ends 5 = .ok (.getfield 52, 3) := by decide +kernel
theorem dX10_ends_8 : decode cX10_ends 8 = .ok (.iload_n 1, 1) := by decide +kernel
theorem dX10_ends_9 : decode cX10_ends 9 = .ok (.iaload, 1) := by decide +kernel
theorem dX10_ends_10 : decode cX10_ends 10 = .ok (.iaload, 1) := by decide +kernel
theorem dX10_ends_11 : decode cX10_ends 11 = .ok (.istore_n 2, 1) := by decide +kernel
theorem dX10_ends_12 : decode cX10_ends 12 = .ok (.aload_n 0, 1) := by decide +kernel
theorem dX10_ends_13 : decode cX10_ends 13 = .ok (.getfield 55, 3) := by decide +kernel
theorem dX10_ends_16 : decode cX10_ends 16 = .ok (.iload_n 1, 1) := by decide +kernel
theorem dX10_ends_17 : decode cX10_ends 17 = .ok (.iaload, 1) := by decide +kernel
theorem dX10_ends_18 : decode cX10_ends 18 = .ok (.ifCond .eq 15, 3) := by decide +kernel
theorem dX10_ends_21 : decode cX10_ends 21 = .ok (.aload_n 0, 1) := by decide +kernel
theorem dX10_ends_22 : decode cX10_ends 22 = .ok (.dup, 1) := by decide +kernel
theorem dX10_ends_23 : decode cX10_ends 23 = .ok (.getfield 231, 3) := by decide +kernel
theorem dX10_ends_26 : decode cX10_ends 26 = .ok (.iconst 1, 1) := by decide +kernel
theorem dX10_ends_27 : decode cX10_ends 27 = .ok (.iadd, 1) := by decide +kernel
theorem dX10_ends_28 : decode cX10_ends 28 = .ok (.putfield 231, 3) := by decide +kernel
theorem dX10_ends_31 : decode cX10_ends 31 = .ok (.iconst 1, 1) := by decide +kernel
theorem dX10_ends_32 : decode cX10_ends 32 = .ok (.ireturn, 1) := by decide +kernel
theorem dX10_ends_33 : decode cX10_ends 33 = .ok (.aload_n 0, 1) := by decide +kernel
theorem dX10_ends_34 : decode cX10_ends 34 = .ok (.getfield 112, 3) := by decide +kernel
theorem dX10_ends_37 : decode cX10_ends 37 = .ok (.iload_n 2, 1) := by decide +kernel
theorem dX10_ends_38 : decode cX10_ends 38 = .ok (.iaload, 1) := by decide +kernel
theorem dX10_ends_39 : decode cX10_ends 39 = .ok (.ifCond .le 15, 3) := by decide +kernel
theorem dX10_ends_42 : decode cX10_ends 42 = .ok (.aload_n 0, 1) := by decide +kernel
theorem dX10_ends_43 : decode cX10_ends 43 = .ok (.iconst 1, 1) := by decide +kernel
theorem dX10_ends_44 : decode cX10_ends 44 = .ok (.aload_n 0, 1) := by decide +kernel
theorem dX10_ends_45 : decode cX10_ends 45 = .ok (.getfield 52, 3) := by decide +kernel
theorem dX10_ends_48 : decode cX10_ends 48 = .ok (.iload_n 1, 1) := by decide +kernel
theorem dX10_ends_49 : decode cX10_ends 49 = .ok (.iaload, 1) := by decide +kernel
theorem dX10_ends_50 : decode cX10_ends 50 = .ok (.invokevirtual 165, 3) := by decide +kernel
theorem dX10_ends_53 : decode cX10_ends 53 = .ok (.ireturn, 1) := by decide +kernel
theorem dX10_ends_54 : decode cX10_ends 54 = .ok (.aload_n 0, 1) := by decide +kernel
theorem dX10_ends_55 : decode cX10_ends 55 = .ok (.getfield 112, 3) := by decide +kernel
theorem dX10_ends_58 : decode cX10_ends 58 = .ok (.iload_n 2, 1) := by decide +kernel
theorem dX10_ends_59 : decode cX10_ends 59 = .ok (.aload_n 0, 1) := by decide +kernel
theorem dX10_ends_60 : decode cX10_ends 60 = .ok (.getfield 67, 3) := by decide +kernel
theorem dX10_ends_63 : decode cX10_ends 63 = .ok (.iconst 3, 1) := by decide +kernel
theorem dX10_ends_64 : decode cX10_ends 64 = .ok (.iload_n 1, 1) := by decide +kernel
theorem dX10_ends_65 : decode cX10_ends 65 = .ok (.imul, 1) := by decide +kernel
theorem dX10_ends_66 : decode cX10_ends 66 = .ok (.iaload, 1) := by decide +kernel
theorem dX10_ends_67 : decode cX10_ends 67 = .ok (.iastore, 1) := by decide +kernel
theorem dX10_ends_68 : decode cX10_ends 68 = .ok (.aload_n 0, 1) := by decide +kernel
theorem dX10_ends_69 : decode cX10_ends 69 = .ok (.getfield 115, 3) := by decide +kernel
theorem dX10_ends_72 : decode cX10_ends 72 = .ok (.iload_n 2, 1) := by decide +kernel
theorem dX10_ends_73 : decode cX10_ends 73 = .ok (.aload_n 0, 1) := by decide +kernel
theorem dX10_ends_74 : decode cX10_ends 74 = .ok (.getfield 70, 3) := by decide +kernel
theorem dX10_ends_77 : decode cX10_ends 77 = .ok (.iconst 3, 1) := by decide +kernel
theorem dX10_ends_78 : decode cX10_ends 78 = .ok (.iload_n 1, 1) := by decide +kernel
theorem dX10_ends_79 : decode cX10_ends 79 = .ok (.imul, 1) := by decide +kernel
theorem dX10_ends_80 : decode cX10_ends 80 = .ok (.iaload, 1) := by decide +kernel
theorem dX10_ends_81 : decode cX10_ends 81 = .ok (.iastore, 1) := by decide +kernel
theorem dX10_ends_82 : decode cX10_ends 82 = .ok (.aload_n 0, 1) := by decide +kernel
theorem dX10_ends_83 : decode cX10_ends 83 = .ok (.getfield 118, 3) := by decide +kernel
theorem dX10_ends_86 : decode cX10_ends 86 = .ok (.iload_n 2, 1) := by decide +kernel
theorem dX10_ends_87 : decode cX10_ends 87 = .ok (.aload_n 0, 1) := by decide +kernel
theorem dX10_ends_88 : decode cX10_ends 88 = .ok (.getfield 73, 3) := by decide +kernel
theorem dX10_ends_91 : decode cX10_ends 91 = .ok (.iconst 3, 1) := by decide +kernel
theorem dX10_ends_92 : decode cX10_ends 92 = .ok (.iload_n 1, 1) := by decide +kernel
theorem dX10_ends_93 : decode cX10_ends 93 = .ok (.imul, 1) := by decide +kernel
theorem dX10_ends_94 : decode cX10_ends 94 = .ok (.iaload, 1) := by decide +kernel
theorem dX10_ends_95 : decode cX10_ends 95 = .ok (.iastore, 1) := by decide +kernel
theorem dX10_ends_96 : decode cX10_ends 96 = .ok (.iconst 1, 1) := by decide +kernel
theorem dX10_ends_97 : decode cX10_ends 97 = .ok (.ireturn, 1) := by decide +kernel
set_option maxRecDepth 20000 in
theorem ggX10_reckons_X10_valueAt : GoodIn wsX10_reckons wsX10_valueAt := goodIn_r _ [8, 9, 69, 70, 71, 72, 73, 74, 75, 76, 77, 78, 79, 80, 81, 82, 83, 84, 85, 86, 87, 88, 89, 90, 91, 92, 93, 94, 95, 96, 97, 98, 99, 100, 101, 102, 103, 104, 105, 106, 107, 108, 109, 110, 111, 112, 113, 114, 115, 116, 117, 118, 119, 120, 121, 122, 123, 124, 125] (by decide +kernel) (by decide +kernel)
set_option maxRecDepth 20000 in
theorem gX10_reckons_X10_valueAt : GoodIn wsX10_reckons (wsV RX10 221 RX10 yX10_valueAt wsX10_valueAt) := goodIn_app (goodIn_of _ (by decide +kernel)) ggX10_reckons_X10_valueAt
set_option maxRecDepth 20000 in
theorem ggX10_reckons_X10_kindAt : GoodIn wsX10_reckons wsX10_kindAt := goodIn_r _ [13, 14, 69, 70, 71, 72, 73, 74, 75, 76, 77, 78, 79, 80, 81, 82, 83, 84, 85, 86, 87, 88, 89, 90, 91, 92, 93, 94, 95, 96, 97, 98, 99, 100, 101, 102, 103, 104, 105, 106, 107, 108, 109, 110, 111, 112, 113, 114, 115, 116, 117, 118, 119, 120, 121, 122, 123, 124, 125] (by decide +kernel) (by decide +kernel)
set_option maxRecDepth 20000 in
theorem gX10_reckons_X10_kindAt : GoodIn wsX10_reckons (wsV RX10 185 RX10 yX10_kindAt wsX10_kindAt) := goodIn_app (goodIn_of _ (by decide +kernel)) ggX10_reckons_X10_kindAt
set_option maxRecDepth 20000 in
theorem ggX10_reckons_X10_faults : GoodIn wsX10_reckons wsX10_faults := goodIn_r _ [18, 19, 20, 21, 7, 22, 23, 24, 25, 26, 27, 28, 29, 30, 31, 32, 14, 9, 33, 3, 34, 35, 36, 37, 38, 39, 40, 41, 2, 42, 43, 1, 44, 45, 46, 47, 48, 49, 50, 69, 70, 71, 72, 73, 74, 75, 76, 77, 78, 79, 80, 81, 82, 83, 84, 85, 86, 87, 88, 89, 90, 91, 92, 93, 94, 95, 96, 97, 98, 99, 100, 101, 102, 103, 104, 105, 106, 107, 108, 109, 110, 111, 112, 113, 114, 115, 116, 117, 118, 119, 120, 121, 122, 123, 124, 125] (by decide +kernel) (by decide +kernel)
set_option maxRecDepth 20000 in
theorem gX10_reckons_X10_faults : GoodIn wsX10_reckons (wsV RX10 228 RX10 yX10_faults wsX10_faults) := goodIn_app (goodIn_of _ (by decide +kernel)) ggX10_reckons_X10_faults
set_option maxRecDepth 20000 in
theorem ggX10_reckons_X10_number : GoodIn wsX10_reckons wsX10_number := goodIn_r _ [54, 1, 2, 19, 20, 21, 7, 22, 23, 24, 25, 26, 27, 28, 29, 30, 31, 32, 14, 9, 33, 3, 34, 35, 36, 37, 38, 39, 40, 41, 42, 43, 44, 45, 46, 47, 48, 49, 50, 69, 70, 71, 72, 73, 74, 75, 76, 77, 78, 79, 80, 81, 82, 83, 84, 85, 86, 87, 88, 89, 90, 91, 92, 93, 94, 95, 96, 97, 98, 99, 100, 101, 102, 103, 104, 105, 106, 107, 108, 109, 110, 111, 112, 113, 114, 115, 116, 117, 118, 119, 120, 121, 122, 123, 124, 125] (by decide +kernel) (by decide +kernel)
set_option maxRecDepth 20000 in
theorem gX10_reckons_X10_number : GoodIn wsX10_reckons (wsV RX10 191 RX10 yX10_number wsX10_number) := goodIn_app (goodIn_of _ (by decide +kernel)) ggX10_reckons_X10_number
set_option maxRecDepth 20000 in
theorem ggX10_reckons_X10_makes : GoodIn wsX10_reckons wsX10_makes := goodIn_r _ [58, 1, 2, 59, 60, 61, 62, 63, 64, 65, 66, 67, 7, 68, 15, 16, 17, 18, 19, 20, 21, 22, 23, 24, 25, 26, 27, 28, 29, 30, 31, 32, 14, 9, 33, 3, 34, 35, 36, 37, 38, 39, 40, 41, 42, 43, 44, 45, 46, 47, 48, 49, 50, 69, 70, 71, 72, 73, 74, 75, 76, 77, 78, 79, 80, 81, 82, 83, 84, 85, 86, 87, 88, 89, 90, 91, 92, 93, 94, 95, 96, 97, 98, 99, 100, 101, 102, 103, 104, 105, 106, 107, 108, 109, 110, 111, 112, 113, 114, 115, 116, 117, 118, 119, 120, 121, 122, 123, 124, 125] (by decide +kernel) (by decide +kernel)
set_option maxRecDepth 20000 in
theorem gX10_reckons_X10_makes : GoodIn wsX10_reckons (wsV RX10 234 RX10 yX10_makes wsX10_makes) := goodIn_app (goodIn_of _ (by decide +kernel)) ggX10_reckons_X10_makes
theorem dX10_reckons_0 : decode cX10_reckons 0 = .ok (.aload_n 0, 1) := by decide +kernel
theorem dX10_reckons_1 : decode cX10_reckons 1 = .ok (.getfield 52, 3) := by decide +kernel
theorem dX10_reckons_4 : decode cX10_reckons 4 = .ok (.iload_n 1, 1) := by decide +kernel
theorem dX10_reckons_5 : decode cX10_reckons 5 = .ok (.iaload, 1) := by decide +kernel
theorem dX10_reckons_6 : decode cX10_reckons 6 = .ok (.istore_n 3, 1) := by decide +kernel
theorem dX10_reckons_7 : decode cX10_reckons 7 = .ok (.aload_n 0, 1) := by decide +kernel
theorem dX10_reckons_8 : decode cX10_reckons 8 = .ok (.getfield 55, 3) := by decide +kernel
theorem dX10_reckons_11 : decode cX10_reckons 11 = .ok (.iload_n 1, 1) := by decide +kernel
theorem dX10_reckons_12 : decode cX10_reckons 12 = .ok (.iaload, 1) := by decide +kernel
theorem dX10_reckons_13 : decode cX10_reckons 13 = .ok (.istore 4, 2) := by decide +kernel
theorem dX10_reckons_15 : decode cX10_reckons 15 = .ok (.aload_n 0, 1) := by decide +kernel
theorem dX10_reckons_16 : decode cX10_reckons 16 = .ok (.iload_n 1, 1) := by decide +kernel
theorem dX10_reckons_17 : decode cX10_reckons 17 = .ok (.iconst 0, 1) := by decide +kernel
theorem dX10_reckons_18 : decode cX10_reckons 18 = .ok (.invokevirtual 221, 3) := by decide +kernel
theorem dX10_reckons_21 : decode cX10_reckons 21 = .ok (.istore 5, 2) := by decide +kernel
theorem dX10_reckons_23 : decode cX10_reckons 23 = .ok (.aload_n 0, 1) := by decide +kernel
theorem dX10_reckons_24 : decode cX10_reckons 24 = .ok (.iload_n 1, 1) := by decide +kernel
theorem dX10_reckons_25 : decode cX10_reckons 25 = .ok (.iconst 1, 1) := by decide +kernel
theorem dX10_reckons_26 : decode cX10_reckons 26 = .ok (.invokevirtual 221, 3) := by decide +kernel
theorem dX10_reckons_29 : decode cX10_reckons 29 = .ok (.istore 6, 2) := by decide +kernel
theorem dX10_reckons_31 : decode cX10_reckons 31 = .ok (.iload_n 2, 1) := by decide +kernel
theorem dX10_reckons_32 : decode cX10_reckons 32 = .ok (.bipush 8, 2) := by decide +kernel
theorem dX10_reckons_34 : decode cX10_reckons 34 = .ok (.if_icmp .ne 45, 3) := by decide +kernel
theorem dX10_reckons_37 : decode cX10_reckons 37 = .ok (.aload_n 0, 1) := by decide +kernel
theorem dX10_reckons_38 : decode cX10_reckons 38 = .ok (.iload_n 1, 1) := by decide +kernel
theorem dX10_reckons_39 : decode cX10_reckons 39 = .ok (.iconst 0, 1) := by decide +kernel
theorem dX10_reckons_40 : decode cX10_reckons 40 = .ok (.invokevirtual 185, 3) := by decide +kernel
theorem dX10_reckons_43 : decode cX10_reckons 43 = .ok (.aload_n 0, 1) := by decide +kernel
theorem dX10_reckons_44 : decode cX10_reckons 44 = .ok (.iload_n 1, 1) := by decide +kernel
theorem dX10_reckons_45 : decode cX10_reckons 45 = .ok (.iconst 1, 1) := by decide +kernel
theorem dX10_reckons_46 : decode cX10_reckons 46 = .ok (.invokevirtual 185, 3) := by decide +kernel
theorem dX10_reckons_49 : decode cX10_reckons 49 = .ok (.if_icmp .eq 12, 3) := by decide +kernel
theorem dX10_reckons_52 : decode cX10_reckons 52 = .ok (.aload_n 0, 1) := by decide +kernel
theorem dX10_reckons_53 : decode cX10_reckons 53 = .ok (.iload_n 3, 1) := by decide +kernel
theorem dX10_reckons_54 : decode cX10_reckons 54 = .ok (.iload 4, 2) := by decide +kernel
theorem dX10_reckons_56 : decode cX10_reckons 56 = .ok (.iconst 4, 1) := by decide +kernel
theorem dX10_reckons_57 : decode cX10_reckons 57 = .ok (.invokevirtual 228, 3) := by decide +kernel
theorem dX10_reckons_60 : decode cX10_reckons 60 = .ok (.ireturn, 1) := by decide +kernel
theorem dX10_reckons_61 : decode cX10_reckons 61 = .ok (.aload_n 0, 1) := by decide +kernel
theorem dX10_reckons_62 : decode cX10_reckons 62 = .ok (.iload_n 1, 1) := by decide +kernel
theorem dX10_reckons_63 : decode cX10_reckons 63 = .ok (.iload 5, 2) := by decide +kernel
theorem dX10_reckons_65 : decode cX10_reckons 65 = .ok (.iload 6, 2) := by decide +kernel
theorem dX10_reckons_67 : decode cX10_reckons 67 = .ok (.if_icmp .ne 7, 3) := by decide +kernel
theorem dX10_reckons_70 : decode cX10_reckons 70 = .ok (.iconst 1, 1) := by decide +kernel
theorem dX10_reckons_71 : decode cX10_reckons 71 = .ok (.goto 4, 3) := by decide +kernel
theorem dX10_reckons_74 : decode cX10_reckons 74 = .ok (.iconst 0, 1) := by decide +kernel
theorem dX10_reckons_75 : decode cX10_reckons 75 = .ok (.invokevirtual 191, 3) := by decide +kernel
theorem dX10_reckons_78 : decode cX10_reckons 78 = .ok (.ireturn, 1) := by decide +kernel
theorem dX10_reckons_79 : decode cX10_reckons 79 = .ok (.iconst 0, 1) := by decide +kernel
theorem dX10_reckons_80 : decode cX10_reckons 80 = .ok (.istore 7, 2) := by decide +kernel
theorem dX10_reckons_82 : decode cX10_reckons 82 = .ok (.iload 7, 2) := by decide +kernel
theorem dX10_reckons_84 : decode cX10_reckons 84 = .ok (.aload_n 0, 1) := by decide +kernel
theorem dX10_reckons_85 : decode cX10_reckons 85 = .ok (.getfield 16, 3) := by decide +kernel
theorem dX10_reckons_88 : decode cX10_reckons 88 = .ok (.iload_n 3, 1) := by decide +kernel
theorem dX10_reckons_89 : decode cX10_reckons 89 = .ok (.iaload, 1) := by decide +kernel
theorem dX10_reckons_90 : decode cX10_reckons 90 = .ok (.if_icmp .ge 29, 3) := by decide +kernel
theorem dX10_reckons_93 : decode cX10_reckons 93 = .ok (.aload_n 0, 1) := by decide +kernel
theorem dX10_reckons_94 : decode cX10_reckons 94 = .ok (.iload_n 1, 1) := by decide +kernel
theorem dX10_reckons_95 : decode cX10_reckons 95 = .ok (.iload 7, 2) := by decide +kernel
theorem dX10_reckons_97 : decode cX10_reckons 97 = .ok (.invokevirtual 185, 3) := by decide +kernel
theorem dX10_reckons_100 : decode cX10_reckons 100 = .ok (.iconst 1, 1) := by decide +kernel
theorem dX10_reckons_101 : decode cX10_reckons 101 = .ok (.if_icmp .eq 12, 3) := by decide +kernel
theorem dX10_reckons_104 : decode cX10_reckons 104 = .ok (.aload_n 0, 1) := by decide +kernel
theorem dX10_reckons_105 : decode cX10_reckons 105 = .ok (.iload_n 3, 1) := by decide +kernel
theorem dX10_reckons_106 : decode cX10_reckons 106 = .ok (.iload 4, 2) := by decide +kernel
theorem dX10_reckons_108 : decode cX10_reckons 108 = .ok (.iconst 4, 1) := by decide +kernel
theorem dX10_reckons_109 : decode cX10_reckons 109 = .ok (.invokevirtual 228, 3) := by decide +kernel
theorem dX10_reckons_112 : decode cX10_reckons 112 = .ok (.ireturn, 1) := by decide +kernel
theorem dX10_reckons_113 : decode cX10_reckons 113 = .ok (.iinc 7 1, 3) := by decide +kernel
theorem dX10_reckons_116 : decode cX10_reckons 116 = .ok (.goto (-34), 3) := by decide +kernel
theorem dX10_reckons_119 : decode cX10_reckons 119 = .ok (.iload_n 2, 1) := by decide +kernel
theorem dX10_reckons_120 : decode cX10_reckons 120 = .ok (.tableswitch 169 2 9 #[48, 59, 70, 81, 108, 135, 169, 153], 48) := by decide +kernel
theorem dX10_reckons_168 : decode cX10_reckons 168 = .ok (.aload_n 0, 1) := by decide +kernel
theorem dX10_reckons_169 : decode cX10_reckons 169 = .ok (.iload_n 1, 1) := by decide +kernel
theorem dX10_reckons_170 : decode cX10_reckons 170 = .ok (.iload 5, 2) := by decide +kernel
theorem dX10_reckons_172 : decode cX10_reckons 172 = .ok (.iload 6, 2) := by decide +kernel
theorem dX10_reckons_174 : decode cX10_reckons 174 = .ok (.iadd, 1) := by decide +kernel
theorem dX10_reckons_175 : decode cX10_reckons 175 = .ok (.invokevirtual 191, 3) := by decide +kernel
theorem dX10_reckons_178 : decode cX10_reckons 178 = .ok (.ireturn, 1) := by decide +kernel
theorem dX10_reckons_179 : decode cX10_reckons 179 = .ok (.aload_n 0, 1) := by decide +kernel
theorem dX10_reckons_180 : decode cX10_reckons 180 = .ok (.iload_n 1, 1) := by decide +kernel
theorem dX10_reckons_181 : decode cX10_reckons 181 = .ok (.iload 5, 2) := by decide +kernel
theorem dX10_reckons_183 : decode cX10_reckons 183 = .ok (.iload 6, 2) := by decide +kernel
theorem dX10_reckons_185 : decode cX10_reckons 185 = .ok (.isub, 1) := by decide +kernel
theorem dX10_reckons_186 : decode cX10_reckons 186 = .ok (.invokevirtual 191, 3) := by decide +kernel
theorem dX10_reckons_189 : decode cX10_reckons 189 = .ok (.ireturn, 1) := by decide +kernel
theorem dX10_reckons_190 : decode cX10_reckons 190 = .ok (.aload_n 0, 1) := by decide +kernel
theorem dX10_reckons_191 : decode cX10_reckons 191 = .ok (.iload_n 1, 1) := by decide +kernel
theorem dX10_reckons_192 : decode cX10_reckons 192 = .ok (.iload 5, 2) := by decide +kernel
theorem dX10_reckons_194 : decode cX10_reckons 194 = .ok (.iload 6, 2) := by decide +kernel
theorem dX10_reckons_196 : decode cX10_reckons 196 = .ok (.imul, 1) := by decide +kernel
theorem dX10_reckons_197 : decode cX10_reckons 197 = .ok (.invokevirtual 191, 3) := by decide +kernel
theorem dX10_reckons_200 : decode cX10_reckons 200 = .ok (.ireturn, 1) := by decide +kernel
theorem dX10_reckons_201 : decode cX10_reckons 201 = .ok (.iload 6, 2) := by decide +kernel
theorem dX10_reckons_203 : decode cX10_reckons 203 = .ok (.ifCond .ne 14, 3) := by decide +kernel
theorem dX10_reckons_206 : decode cX10_reckons 206 = .ok (.aload_n 0, 1) := by decide +kernel
theorem dX10_reckons_207 : decode cX10_reckons 207 = .ok (.iload_n 3, 1) := by decide +kernel
theorem dX10_reckons_208 : decode cX10_reckons 208 = .ok (.iload 4, 2) := by decide +kernel
theorem dX10_reckons_210 : decode cX10_reckons 210 = .ok (.iconst 1, 1) := by decide +kernel
theorem dX10_reckons_211 : decode cX10_reckons 211 = .ok (.invokevirtual 228, 3) := by decide +kernel
theorem dX10_reckons_214 : decode cX10_reckons 214 = .ok (.goto 13, 3) := by decide +kernel
theorem dX10_reckons_217 : decode cX10_reckons 217 = .ok (.aload_n 0, 1) := by decide +kernel
theorem dX10_reckons_218 : decode cX10_reckons 218 = .ok (.iload_n 1, 1) := by decide +kernel
theorem dX10_reckons_219 : decode cX10_reckons 219 = .ok (.iload 5, 2) := by decide +kernel
theorem dX10_reckons_221 : decode cX10_reckons 221 = .ok (.iload 6, 2) := by decide +kernel
theorem dX10_reckons_223 : decode cX10_reckons 223 = .ok (.idiv, 1) := by decide +kernel
theorem dX10_reckons_224 : decode cX10_reckons 224 = .ok (.invokevirtual 191, 3) := by decide +kernel
theorem dX10_reckons_227 : decode cX10_reckons 227 = .ok (.ireturn, 1) := by decide +kernel
theorem dX10_reckons_228 : decode cX10_reckons 228 = .ok (.iload 6, 2) := by decide +kernel
theorem dX10_reckons_230 : decode cX10_reckons 230 = .ok (.ifCond .ne 14, 3) := by decide +kernel
theorem dX10_reckons_233 : decode cX10_reckons 233 = .ok (.aload_n 0, 1) := by decide +kernel
theorem dX10_reckons_234 : decode cX10_reckons 234 = .ok (.iload_n 3, 1) := by decide +kernel
theorem dX10_reckons_235 : decode cX10_reckons 235 = .ok (.iload 4, 2) := by decide +kernel
theorem dX10_reckons_237 : decode cX10_reckons 237 = .ok (.iconst 1, 1) := by decide +kernel
theorem dX10_reckons_238 : decode cX10_reckons 238 = .ok (.invokevirtual 228, 3) := by decide +kernel
theorem dX10_reckons_241 : decode cX10_reckons 241 = .ok (.goto 13, 3) := by decide +kernel
theorem dX10_reckons_244 : decode cX10_reckons 244 = .ok (.aload_n 0, 1) := by decide +kernel
theorem dX10_reckons_245 : decode cX10_reckons 245 = .ok (.iload_n 1, 1) := by decide +kernel
theorem dX10_reckons_246 : decode cX10_reckons 246 = .ok (.iload 5, 2) := by decide +kernel
theorem dX10_reckons_248 : decode cX10_reckons 248 = .ok (.iload 6, 2) := by decide +kernel
theorem dX10_reckons_250 : decode cX10_reckons 250 = .ok (.irem, 1) := by decide +kernel
theorem dX10_reckons_251 : decode cX10_reckons 251 = .ok (.invokevirtual 191, 3) := by decide +kernel
theorem dX10_reckons_254 : decode cX10_reckons 254 = .ok (.ireturn, 1) := by decide +kernel
theorem dX10_reckons_255 : decode cX10_reckons 255 = .ok (.aload_n 0, 1) := by decide +kernel
theorem dX10_reckons_256 : decode cX10_reckons 256 = .ok (.iload_n 1, 1) := by decide +kernel
theorem dX10_reckons_257 : decode cX10_reckons 257 = .ok (.iload 5, 2) := by decide +kernel
theorem dX10_reckons_259 : decode cX10_reckons 259 = .ok (.iload 6, 2) := by decide +kernel
theorem dX10_reckons_261 : decode cX10_reckons 261 = .ok (.if_icmp .ge 7, 3) := by decide +kernel
theorem dX10_reckons_264 : decode cX10_reckons 264 = .ok (.iconst 1, 1) := by decide +kernel
theorem dX10_reckons_265 : decode cX10_reckons 265 = .ok (.goto 4, 3) := by decide +kernel
theorem dX10_reckons_268 : decode cX10_reckons 268 = .ok (.iconst 0, 1) := by decide +kernel
theorem dX10_reckons_269 : decode cX10_reckons 269 = .ok (.invokevirtual 191, 3) := by decide +kernel
theorem dX10_reckons_272 : decode cX10_reckons 272 = .ok (.ireturn, 1) := by decide +kernel
theorem dX10_reckons_273 : decode cX10_reckons 273 = .ok (.aload_n 0, 1) := by decide +kernel
theorem dX10_reckons_274 : decode cX10_reckons 274 = .ok (.iload_n 1, 1) := by decide +kernel
theorem dX10_reckons_275 : decode cX10_reckons 275 = .ok (.iload 5, 2) := by decide +kernel
theorem dX10_reckons_277 : decode cX10_reckons 277 = .ok (.ifCond .ne 7, 3) := by decide +kernel
theorem dX10_reckons_280 : decode cX10_reckons 280 = .ok (.iconst 1, 1) := by decide +kernel
theorem dX10_reckons_281 : decode cX10_reckons 281 = .ok (.goto 4, 3) := by decide +kernel
theorem dX10_reckons_284 : decode cX10_reckons 284 = .ok (.iconst 0, 1) := by decide +kernel
theorem dX10_reckons_285 : decode cX10_reckons 285 = .ok (.invokevirtual 191, 3) := by decide +kernel
theorem dX10_reckons_288 : decode cX10_reckons 288 = .ok (.ireturn, 1) := by decide +kernel
theorem dX10_reckons_289 : decode cX10_reckons 289 = .ok (.aload_n 0, 1) := by decide +kernel
theorem dX10_reckons_290 : decode cX10_reckons 290 = .ok (.iload_n 1, 1) := by decide +kernel
theorem dX10_reckons_291 : decode cX10_reckons 291 = .ok (.iload 5, 2) := by decide +kernel
theorem dX10_reckons_293 : decode cX10_reckons 293 = .ok (.invokevirtual 234, 3) := by decide +kernel
theorem dX10_reckons_296 : decode cX10_reckons 296 = .ok (.ireturn, 1) := by decide +kernel
set_option maxRecDepth 20000 in
theorem ggX10_makes_X10_in : GoodIn wsX10_makes wsX10_in := goodIn_r _ [13] (by decide +kernel) (by decide +kernel)
set_option maxRecDepth 20000 in
theorem gX10_makes_X10_in : GoodIn wsX10_makes (va_wsS RX10 131 yX10_in wsX10_in) := goodIn_app (goodIn_of _ (by decide +kernel)) ggX10_makes_X10_in
set_option maxRecDepth 20000 in
theorem ggX10_makes_X10_faults : GoodIn wsX10_makes wsX10_faults := goodIn_r _ [17, 18, 19, 20, 12, 21, 22, 23, 24, 25, 26, 27, 28, 29, 30, 31, 32, 33, 34, 35, 36, 37, 38, 39, 40, 41, 42, 43, 2, 44, 45, 1, 46, 47, 48, 49, 50, 51, 52, 53, 54, 55, 56, 57, 58, 59, 60, 61, 62, 63, 64, 65, 66, 67, 68, 69, 70, 71, 72, 73, 74, 75, 76, 77, 78, 79, 80, 81, 82, 83, 84, 85, 86, 87, 88, 89, 90, 91, 92, 93, 94, 95, 96, 97, 98, 99, 100, 101, 102, 103, 104, 105, 106, 107, 108, 109] (by decide +kernel) (by decide +kernel)
set_option maxRecDepth 20000 in
theorem gX10_makes_X10_faults : GoodIn wsX10_makes (wsV RX10 228 RX10 yX10_faults wsX10_faults) := goodIn_app (goodIn_of _ (by decide +kernel)) ggX10_makes_X10_faults
set_option maxRecDepth 20000 in
theorem ggX10_makes_X10_stops : GoodIn wsX10_makes wsX10_stops := goodIn_r _ [49, 50, 51, 52, 53, 54, 55, 56, 57, 58, 59, 60, 61, 62, 63, 64, 65, 66, 67, 68, 69, 70, 71, 72, 73, 74, 75, 76, 77, 78, 79, 80, 81, 82, 83, 84, 85, 86, 87, 88, 89, 90, 91, 92, 93, 94, 95, 96, 97, 98, 99, 100, 101, 102, 103, 104, 105, 106, 107, 108, 109] (by decide +kernel) (by decide +kernel)
set_option maxRecDepth 20000 in
theorem gX10_makes_X10_stops : GoodIn wsX10_makes (wsV RX10 165 RX10 yX10_stops wsX10_stops) := goodIn_app (goodIn_of _ (by decide +kernel)) ggX10_makes_X10_stops
set_option maxRecDepth 20000 in
theorem ggX10_makes_X10_gives : GoodIn wsX10_makes wsX10_gives := goodIn_r _ [21, 22, 23, 24, 25, 26, 27, 28, 29, 12, 30, 31, 32, 33, 34, 35, 36, 37, 38, 39, 40, 41, 42, 43, 2, 44, 45, 1, 46, 47, 48, 49, 50, 51, 52, 53, 54, 55, 56, 57, 58, 59, 60, 61, 62, 63, 64, 65, 66, 67, 68, 69, 70, 71, 72, 73, 74, 75, 76, 77, 78, 79, 80, 81, 82, 83, 84, 85, 86, 87, 88, 89, 90, 91, 92, 93, 94, 95, 96, 97, 98, 99, 100, 101, 102, 103, 104, 105, 106, 107, 108, 109] (by decide +kernel) (by decide +kernel)
set_option maxRecDepth 20000 in
theorem gX10_makes_X10_gives : GoodIn wsX10_makes (wsV RX10 182 RX10 yX10_gives wsX10_gives) := goodIn_app (goodIn_of _ (by decide +kernel)) ggX10_makes_X10_gives
theorem dX10_makes_0 : decode cX10_makes 0 = .ok (.iload_n 2, 1) := by decide +kernel
theorem dX10_makes_1 : decode cX10_makes 1 = .ok (.iconst 0, 1) := by decide +kernel
theorem dX10_makes_2 : decode cX10_makes 2 = .ok (.sipush 200, 3) := by decide +kernel
theorem dX10_makes_5 : decode cX10_makes 5 = .ok (.invokestatic 131, 3) := by decide +kernel
theorem dX10_makes_8 : decode cX10_makes 8 = .ok (.ifCond .ne 21, 3) := by decide +kernel
theorem dX10_makes_11 : decode cX10_makes 11 = .ok (.aload_n 0, 1) := by decide +kernel
theorem dX10_makes_12 : decode cX10_makes 12 = .ok (.aload_n 0, 1) := by decide +kernel
theorem dX10_makes_13 : decode cX10_makes 13 = .ok (.getfield 52, 3) := by decide +kernel
theorem dX10_makes_16 : decode cX10_makes 16 = .ok (.iload_n 1, 1) := by decide +kernel
theorem dX10_makes_17 : decode cX10_makes 17 = .ok (.iaload, 1) := by decide +kernel
theorem dX10_makes_18 : decode cX10_makes 18 = .ok (.aload_n 0, 1) := by decide +kernel
theorem dX10_makes_19 : decode cX10_makes 19 = .ok (.getfield 55, 3) := by decide +kernel
theorem dX10_makes_22 : decode cX10_makes 22 = .ok (.iload_n 1, 1) := by decide +kernel
theorem dX10_makes_23 : decode cX10_makes 23 = .ok (.iaload, 1) := by decide +kernel
theorem dX10_makes_24 : decode cX10_makes 24 = .ok (.iconst 3, 1) := by decide +kernel
theorem dX10_makes_25 : decode cX10_makes 25 = .ok (.invokevirtual 228, 3) := by decide +kernel
theorem dX10_makes_28 : decode cX10_makes 28 = .ok (.ireturn, 1) := by decide +kernel
theorem dX10_makes_29 : decode cX10_makes 29 = .ok (.aload_n 0, 1) := by decide +kernel
theorem dX10_makes_30 : decode cX10_makes 30 = .ok (.getfield 237, 3) := by decide +kernel
theorem dX10_makes_33 : decode cX10_makes 33 = .ok (.sipush 300, 3) := by decide +kernel
theorem dX10_makes_36 : decode cX10_makes 36 = .ok (.if_icmp .eq 15, 3) := by decide +kernel
theorem dX10_makes_39 : decode cX10_makes 39 = .ok (.aload_n 0, 1) := by decide +kernel
theorem dX10_makes_40 : decode cX10_makes 40 = .ok (.getfield 240, 3) := by decide +kernel
theorem dX10_makes_43 : decode cX10_makes 43 = .ok (.iload_n 2, 1) := by decide +kernel
theorem dX10_makes_44 : decode cX10_makes 44 = .ok (.iadd, 1) := by decide +kernel
theorem dX10_makes_45 : decode cX10_makes 45 = .ok (.sipush 2000, 3) := by decide +kernel
theorem dX10_makes_48 : decode cX10_makes 48 = .ok (.if_icmp .le 10, 3) := by decide +kernel
theorem dX10_makes_51 : decode cX10_makes 51 = .ok (.aload_n 0, 1) := by decide +kernel
theorem dX10_makes_52 : decode cX10_makes 52 = .ok (.iconst 2, 1) := by decide +kernel
theorem dX10_makes_53 : decode cX10_makes 53 = .ok (.iconst (-1), 1) := by decide +kernel
theorem dX10_makes_54 : decode cX10_makes 54 = .ok (.invokevirtual 165, 3) := by decide +kernel
theorem dX10_makes_57 : decode cX10_makes 57 = .ok (.ireturn, 1) := by decide +kernel
theorem dX10_makes_58 : decode cX10_makes 58 = .ok (.aload_n 0, 1) := by decide +kernel
theorem dX10_makes_59 : decode cX10_makes 59 = .ok (.getfield 85, 3) := by decide +kernel
theorem dX10_makes_62 : decode cX10_makes 62 = .ok (.aload_n 0, 1) := by decide +kernel
theorem dX10_makes_63 : decode cX10_makes 63 = .ok (.getfield 237, 3) := by decide +kernel
theorem dX10_makes_66 : decode cX10_makes 66 = .ok (.aload_n 0, 1) := by decide +kernel
theorem dX10_makes_67 : decode cX10_makes 67 = .ok (.getfield 240, 3) := by decide +kernel
theorem dX10_makes_70 : decode cX10_makes 70 = .ok (.iastore, 1) := by decide +kernel
theorem dX10_makes_71 : decode cX10_makes 71 = .ok (.aload_n 0, 1) := by decide +kernel
theorem dX10_makes_72 : decode cX10_makes 72 = .ok (.getfield 88, 3) := by decide +kernel
theorem dX10_makes_75 : decode cX10_makes 75 = .ok (.aload_n 0, 1) := by decide +kernel
theorem dX10_makes_76 : decode cX10_makes 76 = .ok (.getfield 237, 3) := by decide +kernel
theorem dX10_makes_79 : decode cX10_makes 79 = .ok (.iload_n 2, 1) := by decide +kernel
theorem dX10_makes_80 : decode cX10_makes 80 = .ok (.iastore, 1) := by decide +kernel
theorem dX10_makes_81 : decode cX10_makes 81 = .ok (.aload_n 0, 1) := by decide +kernel
theorem dX10_makes_82 : decode cX10_makes 82 = .ok (.getfield 91, 3) := by decide +kernel
theorem dX10_makes_85 : decode cX10_makes 85 = .ok (.aload_n 0, 1) := by decide +kernel
theorem dX10_makes_86 : decode cX10_makes 86 = .ok (.getfield 237, 3) := by decide +kernel
theorem dX10_makes_89 : decode cX10_makes 89 = .ok (.aload_n 0, 1) := by decide +kernel
theorem dX10_makes_90 : decode cX10_makes 90 = .ok (.getfield 52, 3) := by decide +kernel
theorem dX10_makes_93 : decode cX10_makes 93 = .ok (.iload_n 1, 1) := by decide +kernel
theorem dX10_makes_94 : decode cX10_makes 94 = .ok (.iaload, 1) := by decide +kernel
theorem dX10_makes_95 : decode cX10_makes 95 = .ok (.iastore, 1) := by decide +kernel
theorem dX10_makes_96 : decode cX10_makes 96 = .ok (.aload_n 0, 1) := by decide +kernel
theorem dX10_makes_97 : decode cX10_makes 97 = .ok (.getfield 94, 3) := by decide +kernel
theorem dX10_makes_100 : decode cX10_makes 100 = .ok (.aload_n 0, 1) := by decide +kernel
theorem dX10_makes_101 : decode cX10_makes 101 = .ok (.getfield 237, 3) := by decide +kernel
theorem dX10_makes_104 : decode cX10_makes 104 = .ok (.aload_n 0, 1) := by decide +kernel
theorem dX10_makes_105 : decode cX10_makes 105 = .ok (.getfield 55, 3) := by decide +kernel
theorem dX10_makes_108 : decode cX10_makes 108 = .ok (.iload_n 1, 1) := by decide +kernel
theorem dX10_makes_109 : decode cX10_makes 109 = .ok (.iaload, 1) := by decide +kernel
theorem dX10_makes_110 : decode cX10_makes 110 = .ok (.iastore, 1) := by decide +kernel
theorem dX10_makes_111 : decode cX10_makes 111 = .ok (.iconst 0, 1) := by decide +kernel
theorem dX10_makes_112 : decode cX10_makes 112 = .ok (.istore_n 3, 1) := by decide +kernel
theorem dX10_makes_113 : decode cX10_makes 113 = .ok (.iload_n 3, 1) := by decide +kernel
theorem dX10_makes_114 : decode cX10_makes 114 = .ok (.iload_n 2, 1) := by decide +kernel
theorem dX10_makes_115 : decode cX10_makes 115 = .ok (.if_icmp .ge 21, 3) := by decide +kernel
theorem dX10_makes_118 : decode cX10_makes 118 = .ok (.aload_n 0, 1) := by decide +kernel
theorem dX10_makes_119 : decode cX10_makes 119 = .ok (.getfield 97, 3) := by decide +kernel
theorem dX10_makes_122 : decode cX10_makes 122 = .ok (.aload_n 0, 1) := by decide +kernel
theorem dX10_makes_123 : decode cX10_makes 123 = .ok (.getfield 240, 3) := by decide +kernel
theorem dX10_makes_126 : decode cX10_makes 126 = .ok (.iload_n 3, 1) := by decide +kernel
theorem dX10_makes_127 : decode cX10_makes 127 = .ok (.iadd, 1) := by decide +kernel
theorem dX10_makes_128 : decode cX10_makes 128 = .ok (.iconst 0, 1) := by decide +kernel
theorem dX10_makes_129 : decode cX10_makes 129 = .ok (.iastore, 1) := by decide +kernel
theorem dX10_makes_130 : decode cX10_makes 130 = .ok (.iinc 3 1, 3) := by decide +kernel
theorem dX10_makes_133 : decode cX10_makes 133 = .ok (.goto (-20), 3) := by decide +kernel
theorem dX10_makes_136 : decode cX10_makes 136 = .ok (.aload_n 0, 1) := by decide +kernel
theorem dX10_makes_137 : decode cX10_makes 137 = .ok (.dup, 1) := by decide +kernel
theorem dX10_makes_138 : decode cX10_makes 138 = .ok (.getfield 240, 3) := by decide +kernel
theorem dX10_makes_141 : decode cX10_makes 141 = .ok (.iload_n 2, 1) := by decide +kernel
theorem dX10_makes_142 : decode cX10_makes 142 = .ok (.iadd, 1) := by decide +kernel
theorem dX10_makes_143 : decode cX10_makes 143 = .ok (.putfield 240, 3) := by decide +kernel
theorem dX10_makes_146 : decode cX10_makes 146 = .ok (.aload_n 0, 1) := by decide +kernel
theorem dX10_makes_147 : decode cX10_makes 147 = .ok (.dup, 1) := by decide +kernel
theorem dX10_makes_148 : decode cX10_makes 148 = .ok (.getfield 237, 3) := by decide +kernel
theorem dX10_makes_151 : decode cX10_makes 151 = .ok (.iconst 1, 1) := by decide +kernel
theorem dX10_makes_152 : decode cX10_makes 152 = .ok (.iadd, 1) := by decide +kernel
theorem dX10_makes_153 : decode cX10_makes 153 = .ok (.putfield 237, 3) := by decide +kernel
theorem dX10_makes_156 : decode cX10_makes 156 = .ok (.aload_n 0, 1) := by decide +kernel
theorem dX10_makes_157 : decode cX10_makes 157 = .ok (.aload_n 0, 1) := by decide +kernel
theorem dX10_makes_158 : decode cX10_makes 158 = .ok (.getfield 52, 3) := by decide +kernel
theorem dX10_makes_161 : decode cX10_makes 161 = .ok (.iload_n 1, 1) := by decide +kernel
theorem dX10_makes_162 : decode cX10_makes 162 = .ok (.iaload, 1) := by decide +kernel
theorem dX10_makes_163 : decode cX10_makes 163 = .ok (.iconst 0, 1) := by decide +kernel
theorem dX10_makes_164 : decode cX10_makes 164 = .ok (.aload_n 0, 1) := by decide +kernel
theorem dX10_makes_165 : decode cX10_makes 165 = .ok (.getfield 55, 3) := by decide +kernel
theorem dX10_makes_168 : decode cX10_makes 168 = .ok (.iload_n 1, 1) := by decide +kernel
theorem dX10_makes_169 : decode cX10_makes 169 = .ok (.iaload, 1) := by decide +kernel
theorem dX10_makes_170 : decode cX10_makes 170 = .ok (.iconst 2, 1) := by decide +kernel
theorem dX10_makes_171 : decode cX10_makes 171 = .ok (.aload_n 0, 1) := by decide +kernel
theorem dX10_makes_172 : decode cX10_makes 172 = .ok (.getfield 237, 3) := by decide +kernel
theorem dX10_makes_175 : decode cX10_makes 175 = .ok (.iconst 1, 1) := by decide +kernel
theorem dX10_makes_176 : decode cX10_makes 176 = .ok (.isub, 1) := by decide +kernel
theorem dX10_makes_177 : decode cX10_makes 177 = .ok (.iconst (-1), 1) := by decide +kernel
theorem dX10_makes_178 : decode cX10_makes 178 = .ok (.invokevirtual 182, 3) := by decide +kernel
theorem dX10_makes_181 : decode cX10_makes 181 = .ok (.ireturn, 1) := by decide +kernel
set_option maxRecDepth 20000 in
theorem ggX10_cells_X10_kindAt : GoodIn wsX10_cells wsX10_kindAt := goodIn_r _ [16, 17, 66, 67, 68, 69, 70, 71, 72, 73, 74, 75, 76, 77, 78, 79, 80, 81, 82, 83, 84, 85, 86, 87, 88, 89, 90, 91, 92, 93, 94, 95, 96, 97, 98, 99, 100, 101, 102, 103, 104, 105, 106, 107, 108, 109, 110, 111, 112, 113, 114, 115, 116, 117, 118, 119, 120, 121, 122] (by decide +kernel) (by decide +kernel)
set_option maxRecDepth 20000 in
theorem gX10_cells_X10_kindAt : GoodIn wsX10_cells (wsV RX10 185 RX10 yX10_kindAt wsX10_kindAt) := goodIn_app (goodIn_of _ (by decide +kernel)) ggX10_cells_X10_kindAt
set_option maxRecDepth 20000 in
theorem ggX10_cells_X10_faults : GoodIn wsX10_cells wsX10_faults := goodIn_r _ [21, 22, 23, 24, 15, 25, 26, 27, 28, 29, 30, 31, 32, 33, 34, 35, 17, 36, 11, 37, 38, 39, 40, 41, 42, 43, 44, 45, 2, 46, 47, 1, 48, 49, 50, 51, 52, 53, 54, 66, 67, 68, 69, 70, 71, 72, 73, 74, 75, 76, 77, 78, 79, 80, 81, 82, 83, 84, 85, 86, 87, 88, 89, 90, 91, 92, 93, 94, 95, 96, 97, 98, 99, 100, 101, 102, 103, 104, 105, 106, 107, 108, 109, 110, 111, 112, 113, 114, 115, 116, 117, 118, 119, 120, 121, 122] (by decide +kernel) (by decide +kernel)
set_option maxRecDepth 20000 in
theorem gX10_cells_X10_faults : GoodIn wsX10_cells (wsV RX10 228 RX10 yX10_faults wsX10_faults) := goodIn_app (goodIn_of _ (by decide +kernel)) ggX10_cells_X10_faults
set_option maxRecDepth 20000 in
theorem ggX10_cells_X10_valueAt : GoodIn wsX10_cells wsX10_valueAt := goodIn_r _ [58, 36, 66, 67, 68, 69, 70, 71, 72, 73, 74, 75, 76, 77, 78, 79, 80, 81, 82, 83, 84, 85, 86, 87, 88, 89, 90, 91, 92, 93, 94, 95, 96, 97, 98, 99, 100, 101, 102, 103, 104, 105, 106, 107, 108, 109, 110, 111, 112, 113, 114, 115, 116, 117, 118, 119, 120, 121, 122] (by decide +kernel) (by decide +kernel)
set_option maxRecDepth 20000 in
theorem gX10_cells_X10_valueAt : GoodIn wsX10_cells (wsV RX10 221 RX10 yX10_valueAt wsX10_valueAt) := goodIn_app (goodIn_of _ (by decide +kernel)) ggX10_cells_X10_valueAt
set_option maxRecDepth 20000 in
theorem ggX10_cells_X10_number : GoodIn wsX10_cells wsX10_number := goodIn_r _ [62, 1, 2, 22, 23, 24, 15, 25, 26, 27, 28, 29, 30, 31, 32, 33, 34, 35, 17, 36, 11, 37, 38, 39, 40, 41, 42, 43, 44, 45, 46, 47, 48, 49, 50, 51, 52, 53, 54, 66, 67, 68, 69, 70, 71, 72, 73, 74, 75, 76, 77, 78, 79, 80, 81, 82, 83, 84, 85, 86, 87, 88, 89, 90, 91, 92, 93, 94, 95, 96, 97, 98, 99, 100, 101, 102, 103, 104, 105, 106, 107, 108, 109, 110, 111, 112, 113, 114, 115, 116, 117, 118, 119, 120, 121, 122] (by decide +kernel) (by decide +kernel)
set_option maxRecDepth 20000 in
theorem gX10_cells_X10_number : GoodIn wsX10_cells (wsV RX10 191 RX10 yX10_number wsX10_number) := goodIn_app (goodIn_of _ (by decide +kernel)) ggX10_cells_X10_number
set_option maxRecDepth 20000 in
theorem ggX10_cells_X10_in : GoodIn wsX10_cells wsX10_in := goodIn_r _ [65] (by decide +kernel) (by decide +kernel)
set_option maxRecDepth 20000 in
theorem gX10_cells_X10_in : GoodIn wsX10_cells (va_wsS RX10 131 yX10_in wsX10_in) := goodIn_app (goodIn_of _ (by decide +kernel)) ggX10_cells_X10_in
set_option maxRecDepth 20000 in
theorem ggX10_cells_X10_gives : GoodIn wsX10_cells wsX10_gives := goodIn_r _ [25, 26, 27, 28, 29, 30, 31, 32, 33, 15, 34, 35, 17, 36, 11, 37, 38, 39, 40, 41, 42, 43, 44, 45, 2, 46, 47, 1, 48, 49, 50, 51, 52, 53, 54, 66, 67, 68, 69, 70, 71, 72, 73, 74, 75, 76, 77, 78, 79, 80, 81, 82, 83, 84, 85, 86, 87, 88, 89, 90, 91, 92, 93, 94, 95, 96, 97, 98, 99, 100, 101, 102, 103, 104, 105, 106, 107, 108, 109, 110, 111, 112, 113, 114, 115, 116, 117, 118, 119, 120, 121, 122] (by decide +kernel) (by decide +kernel)
set_option maxRecDepth 20000 in
theorem gX10_cells_X10_gives : GoodIn wsX10_cells (wsV RX10 182 RX10 yX10_gives wsX10_gives) := goodIn_app (goodIn_of _ (by decide +kernel)) ggX10_cells_X10_gives
set_option maxRecDepth 20000 in
theorem ggX10_cells_X10_stops : GoodIn wsX10_cells wsX10_stops := goodIn_r _ [51, 52, 53, 54, 66, 67, 68, 69, 70, 71, 72, 73, 74, 75, 76, 77, 78, 79, 80, 81, 82, 83, 84, 85, 86, 87, 88, 89, 90, 91, 92, 93, 94, 95, 96, 97, 98, 99, 100, 101, 102, 103, 104, 105, 106, 107, 108, 109, 110, 111, 112, 113, 114, 115, 116, 117, 118, 119, 120, 121, 122] (by decide +kernel) (by decide +kernel)
