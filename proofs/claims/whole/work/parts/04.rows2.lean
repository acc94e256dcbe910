theorem dX3_allowsPorts_1 : decode cX3_allowsPorts 1 = .ok (.bipush 14, 2) := by decide +kernel
theorem dX3_allowsPorts_3 : decode cX3_allowsPorts 3 = .ok (.if_icmp .ne 13, 3) := by decide +kernel
theorem dX3_allowsPorts_6 : decode cX3_allowsPorts 6 = .ok (.iload_n 1, 1) := by decide +kernel
theorem dX3_allowsPorts_7 : decode cX3_allowsPorts 7 = .ok (.iconst 1, 1) := by decide +kernel
theorem dX3_allowsPorts_8 : decode cX3_allowsPorts 8 = .ok (.if_icmp .lt 12, 3) := by decide +kernel
theorem dX3_allowsPorts_11 : decode cX3_allowsPorts 11 = .ok (.iload_n 1, 1) := by decide +kernel
theorem dX3_allowsPorts_12 : decode cX3_allowsPorts 12 = .ok (.iconst 3, 1) := by decide +kernel
theorem dX3_allowsPorts_13 : decode cX3_allowsPorts 13 = .ok (.if_icmp .gt 7, 3) := by decide +kernel
theorem dX3_allowsPorts_16 : decode cX3_allowsPorts 16 = .ok (.iconst 1, 1) := by decide +kernel
theorem dX3_allowsPorts_17 : decode cX3_allowsPorts 17 = .ok (.goto 4, 3) := by decide +kernel
theorem dX3_allowsPorts_20 : decode cX3_allowsPorts 20 = .ok (.iconst 0, 1) := by decide +kernel
theorem dX3_allowsPorts_21 : decode cX3_allowsPorts 21 = .ok (.ireturn, 1) := by decide +kernel
set_option maxRecDepth 20000 in
theorem ggX3_portsOf_X3_exists : GoodIn wsX3_portsOf wsX3_exists := goodIn_r _ [5] (by decide +kernel) (by decide +kernel)
set_option maxRecDepth 20000 in
theorem gX3_portsOf_X3_exists : GoodIn wsX3_portsOf (va_wsS RX3 11 yX3_exists wsX3_exists) := goodIn_app (goodIn_of _ (by decide +kernel)) ggX3_portsOf_X3_exists
theorem dX3_portsOf_0 : decode cX3_portsOf 0 = .ok (.iload_n 0, 1) := by decide +kernel
theorem dX3_portsOf_1 : decode cX3_portsOf 1 = .ok (.bipush 14, 2) := by decide +kernel
theorem dX3_portsOf_3 : decode cX3_portsOf 3 = .ok (.if_icmp .eq 10, 3) := by decide +kernel
theorem dX3_portsOf_6 : decode cX3_portsOf 6 = .ok (.iload_n 0, 1) := by decide +kernel
theorem dX3_portsOf_7 : decode cX3_portsOf 7 = .ok (.invokestatic 11, 3) := by decide +kernel
theorem dX3_portsOf_10 : decode cX3_portsOf 10 = .ok (.ifCond .ne 7, 3) := by decide +kernel
theorem dX3_portsOf_13 : decode cX3_portsOf 13 = .ok (.iload_n 1, 1) := by decide +kernel
theorem dX3_portsOf_14 : decode cX3_portsOf 14 = .ok (.goto 8, 3) := by decide +kernel
theorem dX3_portsOf_17 : decode cX3_portsOf 17 = .ok (.getstatic 15, 3) := by decide +kernel
theorem dX3_portsOf_20 : decode cX3_portsOf 20 = .ok (.iload_n 0, 1) := by decide +kernel
theorem dX3_portsOf_21 : decode cX3_portsOf 21 = .ok (.iaload, 1) := by decide +kernel
theorem dX3_portsOf_22 : decode cX3_portsOf 22 = .ok (.ireturn, 1) := by decide +kernel
theorem dX3_hasSide_0 : decode cX3_hasSide 0 = .ok (.iload_n 1, 1) := by decide +kernel
theorem dX3_hasSide_1 : decode cX3_hasSide 1 = .ok (.ifCond .eq 14, 3) := by decide +kernel
theorem dX3_hasSide_4 : decode cX3_hasSide 4 = .ok (.iload_n 1, 1) := by decide +kernel
theorem dX3_hasSide_5 : decode cX3_hasSide 5 = .ok (.iconst 1, 1) := by decide +kernel
theorem dX3_hasSide_6 : decode cX3_hasSide 6 = .ok (.if_icmp .ne 13, 3) := by decide +kernel
theorem dX3_hasSide_9 : decode cX3_hasSide 9 = .ok (.iload_n 0, 1) := by decide +kernel
theorem dX3_hasSide_10 : decode cX3_hasSide 10 = .ok (.bipush 10, 2) := by decide +kernel
theorem dX3_hasSide_12 : decode cX3_hasSide 12 = .ok (.if_icmp .ne 7, 3) := by decide +kernel
theorem dX3_hasSide_15 : decode cX3_hasSide 15 = .ok (.iconst 1, 1) := by decide +kernel
theorem dX3_hasSide_16 : decode cX3_hasSide 16 = .ok (.goto 4, 3) := by decide +kernel
theorem dX3_hasSide_19 : decode cX3_hasSide 19 = .ok (.iconst 0, 1) := by decide +kernel
theorem dX3_hasSide_20 : decode cX3_hasSide 20 = .ok (.ireturn, 1) := by decide +kernel
set_option maxRecDepth 20000 in
theorem ggX4_init_X6_init : GoodIn wsX4_init wsX6_init := goodIn_r _ [26, 27, 2, 3, 8, 28, 10, 29, 30, 31, 32, 33, 34, 56, 57, 58, 59, 60, 61, 62, 63, 64, 65] (by decide +kernel) (by decide +kernel)
set_option maxRecDepth 20000 in
theorem gX4_init_X6_init_n11 : GoodIn wsX4_init (wsX6_init) := ggX4_init_X6_init
set_option maxRecDepth 20000 in
theorem ggX4_init_X0_init : GoodIn wsX4_init wsX0_init := goodIn_r _ [36, 37, 2, 3, 8, 38, 39, 40, 41, 42, 80, 81, 82, 83, 84, 85] (by decide +kernel) (by decide +kernel)
set_option maxRecDepth 20000 in
theorem gX4_init_X0_init_n28 : GoodIn wsX4_init (wsX0_init) := ggX4_init_X0_init
set_option maxRecDepth 20000 in
theorem ggX4_init_X1_init : GoodIn wsX4_init wsX1_init := goodIn_r _ [44, 45, 2, 3, 8, 46, 47, 48, 10, 49, 50, 51, 86, 87, 88, 89, 90, 91, 92, 93] (by decide +kernel) (by decide +kernel)
set_option maxRecDepth 20000 in
theorem gX4_init_X1_init_n35 : GoodIn wsX4_init (wsX1_init) := ggX4_init_X1_init
set_option maxRecDepth 20000 in
theorem ggX4_init_X5_init : GoodIn wsX4_init wsX5_init := goodIn_r _ [53, 54, 2, 3, 8, 55, 94, 95, 96] (by decide +kernel) (by decide +kernel)
set_option maxRecDepth 20000 in
theorem gX4_init_X5_init_n42 : GoodIn wsX4_init (wsX5_init) := ggX4_init_X5_init
theorem dX4_init_0 : decode cX4_init 0 = .ok (.aload_n 0, 1) := by decide +kernel
theorem dX4_init_1 : decode cX4_init 1 = .ok (.invokespecial 3, 3) := by decide +kernel
theorem dX4_init_4 : decode cX4_init 4 = .ok (.aload_n 0, 1) := by decide +kernel
theorem dX4_init_5 : decode cX4_init 5 = .ok (.new 9, 3) := by decide +kernel
theorem dX4_init_8 : decode cX4_init 8 = .ok (.dup, 1) := by decide +kernel
theorem dX4_init_9 : decode cX4_init 9 = .ok (.invokespecial 11, 3) := by decide +kernel
theorem dX4_init_12 : decode cX4_init 12 = .ok (.putfield 12, 3) := by decide +kernel
theorem dX4_init_15 : decode cX4_init 15 = .ok (.aload_n 0, 1) := by decide +kernel
theorem dX4_init_16 : decode cX4_init 16 = .ok (.bipush 80, 2) := by decide +kernel
theorem dX4_init_18 : decode cX4_init 18 = .ok (.newarray .int, 2) := by decide +kernel
theorem dX4_init_20 : decode cX4_init 20 = .ok (.putfield 18, 3) := by decide +kernel
theorem dX4_init_23 : decode cX4_init 23 = .ok (.aload_n 0, 1) := by decide +kernel
theorem dX4_init_24 : decode cX4_init 24 = .ok (.bipush 10, 2) := by decide +kernel
theorem dX4_init_26 : decode cX4_init 26 = .ok (.newarray .long, 2) := by decide +kernel
theorem dX4_init_28 : decode cX4_init 28 = .ok (.putfield 22, 3) := by decide +kernel
theorem dX4_init_31 : decode cX4_init 31 = .ok (.aload_n 0, 1) := by decide +kernel
theorem dX4_init_32 : decode cX4_init 32 = .ok (.new 26, 3) := by decide +kernel
theorem dX4_init_35 : decode cX4_init 35 = .ok (.dup, 1) := by decide +kernel
theorem dX4_init_36 : decode cX4_init 36 = .ok (.invokespecial 28, 3) := by decide +kernel
theorem dX4_init_39 : decode cX4_init 39 = .ok (.putfield 29, 3) := by decide +kernel
theorem dX4_init_42 : decode cX4_init 42 = .ok (.aload_n 0, 1) := by decide +kernel
theorem dX4_init_43 : decode cX4_init 43 = .ok (.new 33, 3) := by decide +kernel
theorem dX4_init_46 : decode cX4_init 46 = .ok (.dup, 1) := by decide +kernel
theorem dX4_init_47 : decode cX4_init 47 = .ok (.invokespecial 35, 3) := by decide +kernel
theorem dX4_init_50 : decode cX4_init 50 = .ok (.putfield 36, 3) := by decide +kernel
theorem dX4_init_53 : decode cX4_init 53 = .ok (.aload_n 0, 1) := by decide +kernel
theorem dX4_init_54 : decode cX4_init 54 = .ok (.new 40, 3) := by decide +kernel
theorem dX4_init_57 : decode cX4_init 57 = .ok (.dup, 1) := by decide +kernel
theorem dX4_init_58 : decode cX4_init 58 = .ok (.invokespecial 42, 3) := by decide +kernel
theorem dX4_init_61 : decode cX4_init 61 = .ok (.putfield 43, 3) := by decide +kernel
theorem dX4_init_64 : decode cX4_init 64 = .ok (.aload_n 0, 1) := by decide +kernel
theorem dX4_init_65 : decode cX4_init 65 = .ok (.aload_n 1, 1) := by decide +kernel
theorem dX4_init_66 : decode cX4_init 66 = .ok (.putfield 47, 3) := by decide +kernel
theorem dX4_init_69 : decode cX4_init 69 = .ok (.return_, 1) := by decide +kernel
set_option maxRecDepth 20000 in
theorem ggX4_goBySeed_X4_begin : GoodIn wsX4_goBySeed wsX4_begin := goodIn_r _ [10, 11, 12, 2, 13, 14, 15, 5, 3, 16, 4, 17, 18, 19, 20, 21, 22, 23, 24, 25, 26, 27, 28, 29, 30, 31, 32, 33, 34, 35, 36, 37, 38, 39, 40, 41, 42, 43, 44, 45, 46, 47, 48, 49, 50, 51, 52, 53, 54, 55, 56, 57, 58, 59, 60, 61, 62, 63, 64, 65, 66, 67, 68, 69, 70, 71, 72, 73, 74, 75, 76, 77, 78, 79, 80, 81, 9, 82, 83, 84, 85, 86, 87, 88, 89, 90, 91, 92, 93, 94, 95, 96, 97, 98, 99, 100, 101, 102, 103, 104, 105, 106, 107, 108, 109, 110, 111, 112, 113, 306, 307, 308, 309, 310, 311, 312, 313, 314, 315, 316, 317, 318, 319, 320, 321, 322, 323, 324, 325, 326, 327, 328, 329, 330, 331, 332, 333, 334, 335, 336, 337, 338, 339, 340, 341, 342, 343, 344, 345, 346, 347, 348, 349, 350, 351, 352, 353, 354, 355, 356, 357, 358, 359, 360, 361] (by decide +kernel) (by decide +kernel)
set_option maxRecDepth 20000 in
theorem gX4_goBySeed_X4_begin : GoodIn wsX4_goBySeed (wsV RX4 51 RX4 yX4_begin wsX4_begin) := goodIn_app (goodIn_of _ (by decide +kernel)) ggX4_goBySeed_X4_begin
set_option maxRecDepth 20000 in
theorem ggX4_goBySeed_X4_mayStep : GoodIn wsX4_goBySeed wsX4_mayStep := goodIn_r _ [117, 5, 2, 3, 118, 119, 120, 55, 121, 58, 57, 306, 307, 308, 309, 310, 311, 312, 313, 314, 315, 316, 317, 318, 319, 349, 350, 351] (by decide +kernel) (by decide +kernel)
set_option maxRecDepth 20000 in
theorem gX4_goBySeed_X4_mayStep : GoodIn wsX4_goBySeed (wsV RX4 54 RX4 yX4_mayStep wsX4_mayStep) := goodIn_app (goodIn_of _ (by decide +kernel)) ggX4_goBySeed_X4_mayStep
set_option maxRecDepth 20000 in
theorem ggX4_goBySeed_X5_size : GoodIn wsX4_goBySeed wsX5_size := goodIn_r _ [121, 58, 57, 349, 350, 351] (by decide +kernel) (by decide +kernel)
set_option maxRecDepth 20000 in
theorem gX4_goBySeed_X5_size : GoodIn wsX4_goBySeed (wsV RX4 59 RX5 yX5_size wsX5_size) := goodIn_app (goodIn_of _ (by decide +kernel)) ggX4_goBySeed_X5_size
set_option maxRecDepth 20000 in
theorem ggX4_goBySeed_X5_take : GoodIn wsX4_goBySeed wsX5_take := goodIn_r _ [125, 57, 113, 58, 126, 127, 128, 129, 130, 119, 120, 55, 121, 349, 350, 351] (by decide +kernel) (by decide +kernel)
set_option maxRecDepth 20000 in
theorem gX4_goBySeed_X5_take : GoodIn wsX4_goBySeed (wsV RX4 63 RX5 yX5_take wsX5_take) := goodIn_app (goodIn_of _ (by decide +kernel)) ggX4_goBySeed_X5_take
set_option maxRecDepth 20000 in
theorem ggX4_goBySeed_X4_goOff : GoodIn wsX4_goBySeed wsX4_goOff := goodIn_r _ [134, 12, 135, 136, 3, 14, 20, 137, 11, 138, 139, 140, 141, 43, 142, 108, 143, 144, 145, 9, 146, 17, 147, 148, 75, 149, 150, 151, 152, 153, 154, 155, 156, 5, 157, 158, 159, 160, 161, 162, 163, 164, 165, 79, 80, 81, 82, 83, 2, 84, 85, 86, 87, 47, 88, 89, 90, 91, 92, 93, 46, 94, 95, 96, 97, 98, 99, 100, 101, 102, 103, 19, 104, 105, 106, 107, 45, 109, 110, 111, 55, 112, 58, 113, 166, 167, 168, 28, 169, 170, 171, 172, 173, 38, 35, 39, 30, 31, 32, 33, 34, 36, 37, 174, 175, 176, 177, 178, 179, 180, 181, 182, 183, 184, 185, 186, 187, 188, 189, 78, 190, 191, 192, 193, 194, 195, 196, 197, 198, 199, 200, 201, 202, 203, 204, 205, 206, 207, 208, 209, 210, 211, 212, 213, 214, 215, 216, 217, 218, 219, 220, 221, 222, 223, 13, 224, 225, 226, 227, 228, 229, 230, 231, 232, 62, 233, 65, 66, 234, 235, 236, 237, 238, 239, 240, 241, 242, 243, 244, 245, 246, 247, 248, 249, 250, 251, 252, 253, 254, 255, 256, 257, 258, 259, 260, 261, 262, 263, 264, 265, 266, 267, 268, 269, 270, 271, 64, 272, 273, 274, 275, 276, 277, 278, 279, 280, 281, 282, 283, 18, 15, 284, 285, 286, 287, 73, 74, 76, 77, 288, 289, 290, 291, 292, 293, 294, 295, 296, 297, 298, 299, 300, 301, 302, 303, 304, 305, 306, 307, 308, 309, 310, 311, 312, 313, 314, 315, 316, 317, 318, 319, 341, 342, 343, 344, 345, 346, 347, 348, 320, 321, 322, 323, 324, 325, 326, 327, 328, 329, 330, 331, 332, 333, 334, 349, 350, 351, 335, 336, 337, 338, 339, 340, 352, 353, 354, 355, 356, 357, 358, 359, 360, 361] (by decide +kernel) (by decide +kernel)
set_option maxRecDepth 20000 in
theorem gX4_goBySeed_X4_goOff : GoodIn wsX4_goBySeed (wsV RX4 67 RX4 yX4_goOff wsX4_goOff) := goodIn_app (goodIn_of _ (by decide +kernel)) ggX4_goBySeed_X4_goOff
theorem dX4_goBySeed_0 : decode cX4_goBySeed 0 = .ok (.aload_n 0, 1) := by decide +kernel
theorem dX4_goBySeed_1 : decode cX4_goBySeed 1 = .ok (.invokevirtual 51, 3) := by decide +kernel
theorem dX4_goBySeed_4 : decode cX4_goBySeed 4 = .ok (.iload_n 1, 1) := by decide +kernel
theorem dX4_goBySeed_5 : decode cX4_goBySeed 5 = .ok (.istore_n 3, 1) := by decide +kernel
theorem dX4_goBySeed_6 : decode cX4_goBySeed 6 = .ok (.iconst 0, 1) := by decide +kernel
theorem dX4_goBySeed_7 : decode cX4_goBySeed 7 = .ok (.istore 4, 2) := by decide +kernel
theorem dX4_goBySeed_9 : decode cX4_goBySeed 9 = .ok (.iload 4, 2) := by decide +kernel
theorem dX4_goBySeed_11 : decode cX4_goBySeed 11 = .ok (.iload_n 2, 1) := by decide +kernel
theorem dX4_goBySeed_12 : decode cX4_goBySeed 12 = .ok (.if_icmp .gt 62, 3) := by decide +kernel
theorem dX4_goBySeed_15 : decode cX4_goBySeed 15 = .ok (.aload_n 0, 1) := by decide +kernel
theorem dX4_goBySeed_16 : decode cX4_goBySeed 16 = .ok (.iload_n 2, 1) := by decide +kernel
theorem dX4_goBySeed_17 : decode cX4_goBySeed 17 = .ok (.invokevirtual 54, 3) := by decide +kernel
theorem dX4_goBySeed_20 : decode cX4_goBySeed 20 = .ok (.ifCond .eq 54, 3) := by decide +kernel
theorem dX4_goBySeed_23 : decode cX4_goBySeed 23 = .ok (.ldc 58, 2) := by decide +kernel
theorem dX4_goBySeed_25 : decode cX4_goBySeed 25 = .ok (.iload_n 3, 1) := by decide +kernel
theorem dX4_goBySeed_26 : decode cX4_goBySeed 26 = .ok (.imul, 1) := by decide +kernel
theorem dX4_goBySeed_27 : decode cX4_goBySeed 27 = .ok (.sipush 12345, 3) := by decide +kernel
theorem dX4_goBySeed_30 : decode cX4_goBySeed 30 = .ok (.iadd, 1) := by decide +kernel
theorem dX4_goBySeed_31 : decode cX4_goBySeed 31 = .ok (.istore_n 3, 1) := by decide +kernel
theorem dX4_goBySeed_32 : decode cX4_goBySeed 32 = .ok (.aload_n 0, 1) := by decide +kernel
theorem dX4_goBySeed_33 : decode cX4_goBySeed 33 = .ok (.getfield 43, 3) := by decide +kernel
theorem dX4_goBySeed_36 : decode cX4_goBySeed 36 = .ok (.invokevirtual 59, 3) := by decide +kernel
theorem dX4_goBySeed_39 : decode cX4_goBySeed 39 = .ok (.istore 5, 2) := by decide +kernel
theorem dX4_goBySeed_41 : decode cX4_goBySeed 41 = .ok (.aload_n 0, 1) := by decide +kernel
theorem dX4_goBySeed_42 : decode cX4_goBySeed 42 = .ok (.aload_n 0, 1) := by decide +kernel
theorem dX4_goBySeed_43 : decode cX4_goBySeed 43 = .ok (.getfield 43, 3) := by decide +kernel
theorem dX4_goBySeed_46 : decode cX4_goBySeed 46 = .ok (.iload 5, 2) := by decide +kernel
theorem dX4_goBySeed_48 : decode cX4_goBySeed 48 = .ok (.ifCond .ne 7, 3) := by decide +kernel
theorem dX4_goBySeed_51 : decode cX4_goBySeed 51 = .ok (.iconst 0, 1) := by decide +kernel
theorem dX4_goBySeed_52 : decode cX4_goBySeed 52 = .ok (.goto 10, 3) := by decide +kernel
theorem dX4_goBySeed_55 : decode cX4_goBySeed 55 = .ok (.iload_n 3, 1) := by decide +kernel
theorem dX4_goBySeed_56 : decode cX4_goBySeed 56 = .ok (.bipush 16, 2) := by decide +kernel
theorem dX4_goBySeed_58 : decode cX4_goBySeed 58 = .ok (.iushr, 1) := by decide +kernel
theorem dX4_goBySeed_59 : decode cX4_goBySeed 59 = .ok (.iload 5, 2) := by decide +kernel
theorem dX4_goBySeed_61 : decode cX4_goBySeed 61 = .ok (.irem, 1) := by decide +kernel
theorem dX4_goBySeed_62 : decode cX4_goBySeed 62 = .ok (.invokevirtual 63, 3) := by decide +kernel
theorem dX4_goBySeed_65 : decode cX4_goBySeed 65 = .ok (.invokevirtual 67, 3) := by decide +kernel
theorem dX4_goBySeed_68 : decode cX4_goBySeed 68 = .ok (.iinc 4 1, 3) := by decide +kernel
theorem dX4_goBySeed_71 : decode cX4_goBySeed 71 = .ok (.goto (-62), 3) := by decide +kernel
theorem dX4_goBySeed_74 : decode cX4_goBySeed 74 = .ok (.aload_n 0, 1) := by decide +kernel
theorem dX4_goBySeed_75 : decode cX4_goBySeed 75 = .ok (.aload_n 0, 1) := by decide +kernel
theorem dX4_goBySeed_76 : decode cX4_goBySeed 76 = .ok (.getfield 71, 3) := by decide +kernel
theorem dX4_goBySeed_79 : decode cX4_goBySeed 79 = .ok (.ifCond .le 7, 3) := by decide +kernel
theorem dX4_goBySeed_82 : decode cX4_goBySeed 82 = .ok (.iconst 1, 1) := by decide +kernel
theorem dX4_goBySeed_83 : decode cX4_goBySeed 83 = .ok (.goto 4, 3) := by decide +kernel
theorem dX4_goBySeed_86 : decode cX4_goBySeed 86 = .ok (.iconst 0, 1) := by decide +kernel
theorem dX4_goBySeed_87 : decode cX4_goBySeed 87 = .ok (.putfield 75, 3) := by decide +kernel
theorem dX4_goBySeed_90 : decode cX4_goBySeed 90 = .ok (.aload_n 0, 1) := by decide +kernel
theorem dX4_goBySeed_91 : decode cX4_goBySeed 91 = .ok (.getfield 78, 3) := by decide +kernel
theorem dX4_goBySeed_94 : decode cX4_goBySeed 94 = .ok (.ireturn, 1) := by decide +kernel
set_option maxRecDepth 20000 in
theorem ggX4_goByTicks_X4_begin : GoodIn wsX4_goByTicks wsX4_begin := goodIn_r _ [6, 7, 8, 9, 10, 11, 12, 1, 13, 14, 15, 16, 17, 18, 19, 20, 21, 22, 23, 24, 25, 26, 27, 28, 29, 30, 31, 32, 33, 34, 35, 36, 37, 38, 39, 40, 41, 42, 43, 44, 45, 46, 47, 48, 49, 50, 51, 52, 53, 54, 55, 56, 57, 58, 59, 60, 61, 62, 63, 64, 65, 66, 67, 68, 69, 70, 71, 72, 73, 74, 75, 76, 77, 78, 79, 80, 5, 81, 82, 83, 84, 85, 86, 87, 88, 89, 90, 91, 92, 93, 94, 95, 96, 97, 98, 99, 100, 101, 102, 103, 104, 105, 106, 107, 108, 109, 110, 111, 112, 313, 314, 315, 316, 317, 318, 319, 320, 321, 322, 323, 324, 325, 326, 327, 328, 329, 330, 331, 332, 333, 334, 335, 336, 337, 338, 339, 340, 341, 342, 343, 344, 345, 346, 347, 348, 349, 350, 351, 352, 353, 354, 355, 356, 357, 358, 359, 360, 361, 362, 363, 364, 365, 366, 367, 368] (by decide +kernel) (by decide +kernel)
set_option maxRecDepth 20000 in
theorem gX4_goByTicks_X4_begin : GoodIn wsX4_goByTicks (wsV RX4 51 RX4 yX4_begin wsX4_begin) := goodIn_app (goodIn_of _ (by decide +kernel)) ggX4_goByTicks_X4_begin
set_option maxRecDepth 20000 in
theorem ggX4_goByTicks_X4_mayStep : GoodIn wsX4_goByTicks wsX4_mayStep := goodIn_r _ [116, 1, 9, 13, 117, 118, 119, 54, 120, 57, 56, 313, 314, 315, 316, 317, 318, 319, 320, 321, 322, 323, 324, 325, 326, 356, 357, 358] (by decide +kernel) (by decide +kernel)
set_option maxRecDepth 20000 in
theorem gX4_goByTicks_X4_mayStep : GoodIn wsX4_goByTicks (wsV RX4 54 RX4 yX4_mayStep wsX4_mayStep) := goodIn_app (goodIn_of _ (by decide +kernel)) ggX4_goByTicks_X4_mayStep
set_option maxRecDepth 20000 in
theorem ggX4_goByTicks_X4_goTick : GoodIn wsX4_goByTicks wsX4_goTick := goodIn_r _ [124, 9, 14, 15, 125, 126, 127, 128, 117, 118, 119, 54, 120, 57, 56, 113, 114, 115, 5, 116, 1, 13, 129, 130, 131, 132, 112, 133, 134, 135, 136, 137, 138, 139, 140, 141, 8, 142, 143, 11, 19, 144, 7, 145, 146, 147, 148, 42, 149, 107, 150, 151, 152, 153, 16, 154, 155, 74, 156, 157, 158, 159, 160, 161, 162, 163, 164, 165, 166, 167, 168, 169, 170, 171, 172, 78, 79, 80, 81, 82, 83, 84, 85, 86, 46, 87, 88, 89, 90, 91, 92, 45, 93, 94, 95, 96, 97, 98, 99, 100, 101, 102, 18, 103, 104, 105, 106, 44, 108, 109, 110, 111, 173, 174, 175, 27, 176, 177, 178, 179, 180, 37, 34, 38, 29, 30, 31, 32, 33, 35, 36, 181, 182, 183, 184, 185, 186, 187, 188, 189, 190, 191, 192, 193, 194, 195, 196, 77, 197, 198, 199, 200, 201, 202, 203, 204, 205, 206, 207, 208, 209, 210, 211, 212, 213, 214, 215, 216, 217, 218, 219, 220, 221, 222, 223, 224, 225, 226, 227, 228, 229, 230, 10, 231, 232, 233, 234, 235, 236, 237, 238, 239, 61, 240, 64, 65, 241, 242, 243, 244, 245, 246, 247, 248, 249, 250, 251, 252, 253, 254, 255, 256, 257, 258, 259, 260, 261, 262, 263, 264, 265, 266, 267, 268, 269, 270, 271, 272, 273, 274, 275, 276, 277, 278, 63, 279, 280, 281, 282, 283, 284, 285, 286, 287, 288, 289, 290, 17, 12, 291, 292, 293, 294, 72, 73, 75, 76, 295, 296, 297, 298, 299, 300, 301, 302, 303, 304, 305, 306, 307, 308, 309, 310, 311, 312, 313, 314, 315, 316, 317, 318, 319, 320, 321, 322, 323, 324, 325, 326, 356, 357, 358, 348, 349, 350, 351, 352, 353, 354, 355, 327, 328, 329, 330, 331, 332, 333, 334, 335, 336, 337, 338, 339, 340, 341, 342, 343, 344, 345, 346, 347, 359, 360, 361, 362, 363, 364, 365, 366, 367, 368] (by decide +kernel) (by decide +kernel)
set_option maxRecDepth 20000 in
theorem gX4_goByTicks_X4_goTick : GoodIn wsX4_goByTicks (wsV RX4 81 RX4 yX4_goTick wsX4_goTick) := goodIn_app (goodIn_of _ (by decide +kernel)) ggX4_goByTicks_X4_goTick
theorem dX4_goByTicks_0 : decode cX4_goByTicks 0 = .ok (.aload_n 0, 1) := by decide +kernel
theorem dX4_goByTicks_1 : decode cX4_goByTicks 1 = .ok (.invokevirtual 51, 3) := by decide +kernel
theorem dX4_goByTicks_4 : decode cX4_goByTicks 4 = .ok (.iconst 0, 1) := by decide +kernel
theorem dX4_goByTicks_5 : decode cX4_goByTicks 5 = .ok (.istore_n 2, 1) := by decide +kernel
theorem dX4_goByTicks_6 : decode cX4_goByTicks 6 = .ok (.iload_n 2, 1) := by decide +kernel
theorem dX4_goByTicks_7 : decode cX4_goByTicks 7 = .ok (.iload_n 1, 1) := by decide +kernel
theorem dX4_goByTicks_8 : decode cX4_goByTicks 8 = .ok (.if_icmp .gt 22, 3) := by decide +kernel
theorem dX4_goByTicks_11 : decode cX4_goByTicks 11 = .ok (.aload_n 0, 1) := by decide +kernel
theorem dX4_goByTicks_12 : decode cX4_goByTicks 12 = .ok (.iload_n 1, 1) := by decide +kernel
theorem dX4_goByTicks_13 : decode cX4_goByTicks 13 = .ok (.invokevirtual 54, 3) := by decide +kernel
theorem dX4_goByTicks_16 : decode cX4_goByTicks 16 = .ok (.ifCond .eq 14, 3) := by decide +kernel
theorem dX4_goByTicks_19 : decode cX4_goByTicks 19 = .ok (.aload_n 0, 1) := by decide +kernel
theorem dX4_goByTicks_20 : decode cX4_goByTicks 20 = .ok (.iload_n 1, 1) := by decide +kernel
theorem dX4_goByTicks_21 : decode cX4_goByTicks 21 = .ok (.invokevirtual 81, 3) := by decide +kernel
theorem dX4_goByTicks_24 : decode cX4_goByTicks 24 = .ok (.iinc 2 1, 3) := by decide +kernel
theorem dX4_goByTicks_27 : decode cX4_goByTicks 27 = .ok (.goto (-21), 3) := by decide +kernel
theorem dX4_goByTicks_30 : decode cX4_goByTicks 30 = .ok (.aload_n 0, 1) := by decide +kernel
theorem dX4_goByTicks_31 : decode cX4_goByTicks 31 = .ok (.getfield 78, 3) := by decide +kernel
theorem dX4_goByTicks_34 : decode cX4_goByTicks 34 = .ok (.ireturn, 1) := by decide +kernel
set_option maxRecDepth 20000 in
theorem ggX4_figure_X5_size : GoodIn wsX4_figure wsX5_size := goodIn_r _ [19, 20, 21, 60, 61, 62] (by decide +kernel) (by decide +kernel)
set_option maxRecDepth 20000 in
theorem gX4_figure_X5_size : GoodIn wsX4_figure (wsV RX4 59 RX5 yX5_size wsX5_size) := goodIn_app (goodIn_of _ (by decide +kernel)) ggX4_figure_X5_size
theorem dX4_figure_0 : decode cX4_figure 0 = .ok (.iload_n 1, 1) := by decide +kernel
theorem dX4_figure_1 : decode cX4_figure 1 = .ok (.tableswitch 126 0 10 #[59, 64, 69, 74, 79, 87, 95, 100, 105, 113, 118], 59) := by decide +kernel
theorem dX4_figure_60 : decode cX4_figure 60 = .ok (.aload_n 0, 1) := by decide +kernel
theorem dX4_figure_61 : decode cX4_figure 61 = .ok (.getfield 78, 3) := by decide +kernel
theorem dX4_figure_64 : decode cX4_figure 64 = .ok (.ireturn, 1) := by decide +kernel
theorem dX4_figure_65 : decode cX4_figure 65 = .ok (.aload_n 0, 1) := by decide +kernel
theorem dX4_figure_66 : decode cX4_figure 66 = .ok (.getfield 71, 3) := by decide +kernel
theorem dX4_figure_69 : decode cX4_figure 69 = .ok (.ireturn, 1) := by decide +kernel
theorem dX4_figure_70 : decode cX4_figure 70 = .ok (.aload_n 0, 1) := by decide +kernel
theorem dX4_figure_71 : decode cX4_figure 71 = .ok (.getfield 84, 3) := by decide +kernel
theorem dX4_figure_74 : decode cX4_figure 74 = .ok (.ireturn, 1) := by decide +kernel
theorem dX4_figure_75 : decode cX4_figure 75 = .ok (.aload_n 0, 1) := by decide +kernel
theorem dX4_figure_76 : decode cX4_figure 76 = .ok (.getfield 75, 3) := by decide +kernel
theorem dX4_figure_79 : decode cX4_figure 79 = .ok (.ireturn, 1) := by decide +kernel
theorem dX4_figure_80 : decode cX4_figure 80 = .ok (.aload_n 0, 1) := by decide +kernel
theorem dX4_figure_81 : decode cX4_figure 81 = .ok (.getfield 36, 3) := by decide +kernel
theorem dX4_figure_84 : decode cX4_figure 84 = .ok (.getfield 87, 3) := by decide +kernel
theorem dX4_figure_87 : decode cX4_figure 87 = .ok (.ireturn, 1) := by decide +kernel
theorem dX4_figure_88 : decode cX4_figure 88 = .ok (.aload_n 0, 1) := by decide +kernel
theorem dX4_figure_89 : decode cX4_figure 89 = .ok (.getfield 12, 3) := by decide +kernel
theorem dX4_figure_92 : decode cX4_figure 92 = .ok (.getfield 90, 3) := by decide +kernel
theorem dX4_figure_95 : decode cX4_figure 95 = .ok (.ireturn, 1) := by decide +kernel
theorem dX4_figure_96 : decode cX4_figure 96 = .ok (.aload_n 0, 1) := by decide +kernel
theorem dX4_figure_97 : decode cX4_figure 97 = .ok (.getfield 93, 3) := by decide +kernel
theorem dX4_figure_100 : decode cX4_figure 100 = .ok (.ireturn, 1) := by decide +kernel
theorem dX4_figure_101 : decode cX4_figure 101 = .ok (.aload_n 0, 1) := by decide +kernel
theorem dX4_figure_102 : decode cX4_figure 102 = .ok (.getfield 96, 3) := by decide +kernel
theorem dX4_figure_105 : decode cX4_figure 105 = .ok (.ireturn, 1) := by decide +kernel
theorem dX4_figure_106 : decode cX4_figure 106 = .ok (.aload_n 0, 1) := by decide +kernel
theorem dX4_figure_107 : decode cX4_figure 107 = .ok (.getfield 29, 3) := by decide +kernel
theorem dX4_figure_110 : decode cX4_figure 110 = .ok (.getfield 99, 3) := by decide +kernel
theorem dX4_figure_113 : decode cX4_figure 113 = .ok (.ireturn, 1) := by decide +kernel
theorem dX4_figure_114 : decode cX4_figure 114 = .ok (.aload_n 0, 1) := by decide +kernel
theorem dX4_figure_115 : decode cX4_figure 115 = .ok (.getfield 102, 3) := by decide +kernel
theorem dX4_figure_118 : decode cX4_figure 118 = .ok (.ireturn, 1) := by decide +kernel
theorem dX4_figure_119 : decode cX4_figure 119 = .ok (.aload_n 0, 1) := by decide +kernel
theorem dX4_figure_120 : decode cX4_figure 120 = .ok (.getfield 43, 3) := by decide +kernel
theorem dX4_figure_123 : decode cX4_figure 123 = .ok (.invokevirtual 59, 3) := by decide +kernel
theorem dX4_figure_126 : decode cX4_figure 126 = .ok (.ireturn, 1) := by decide +kernel
theorem dX4_figure_127 : decode cX4_figure 127 = .ok (.iconst (-1), 1) := by decide +kernel
theorem dX4_figure_128 : decode cX4_figure 128 = .ok (.ireturn, 1) := by decide +kernel
set_option maxRecDepth 20000 in
theorem ggX4_describe_X8_sortOf : GoodIn wsX4_describe wsX8_sortOf := goodIn_r _ [5] (by decide +kernel) (by decide +kernel)
set_option maxRecDepth 20000 in
theorem gX4_describe_X8_sortOf : GoodIn wsX4_describe (va_wsS RX4 105 yX8_sortOf wsX8_sortOf) := goodIn_app (goodIn_of _ (by decide +kernel)) ggX4_describe_X8_sortOf
set_option maxRecDepth 20000 in
theorem ggX4_describe_X8_contentOf : GoodIn wsX4_describe wsX8_contentOf := goodIn_r _ [8] (by decide +kernel) (by decide +kernel)
set_option maxRecDepth 20000 in
theorem gX4_describe_X8_contentOf : GoodIn wsX4_describe (va_wsS RX4 111 yX8_contentOf wsX8_contentOf) := goodIn_app (goodIn_of _ (by decide +kernel)) ggX4_describe_X8_contentOf
set_option maxRecDepth 20000 in
theorem ggX4_describe_X6_sizeOf : GoodIn wsX4_describe wsX6_sizeOf := goodIn_r _ [13, 14, 15, 33, 34, 35, 36, 37, 38, 39, 40, 41, 42] (by decide +kernel) (by decide +kernel)
set_option maxRecDepth 20000 in
theorem gX4_describe_X6_sizeOf : GoodIn wsX4_describe (wsV RX4 114 RX6 yX6_sizeOf wsX6_sizeOf) := goodIn_app (goodIn_of _ (by decide +kernel)) ggX4_describe_X6_sizeOf
set_option maxRecDepth 20000 in
theorem ggX4_describe_X8_actOf : GoodIn wsX4_describe wsX8_actOf := goodIn_r _ [18] (by decide +kernel) (by decide +kernel)
set_option maxRecDepth 20000 in
theorem gX4_describe_X8_actOf : GoodIn wsX4_describe (va_wsS RX4 117 yX8_actOf wsX8_actOf) := goodIn_app (goodIn_of _ (by decide +kernel)) ggX4_describe_X8_actOf
theorem dX4_describe_0 : decode cX4_describe 0 = .ok (.lload_n 1, 1) := by decide +kernel
theorem dX4_describe_1 : decode cX4_describe 1 = .ok (.invokestatic 105, 3) := by decide +kernel
theorem dX4_describe_4 : decode cX4_describe 4 = .ok (.istore 4, 2) := by decide +kernel
theorem dX4_describe_6 : decode cX4_describe 6 = .ok (.iload_n 3, 1) := by decide +kernel
theorem dX4_describe_7 : decode cX4_describe 7 = .ok (.tableswitch 78 0 2 #[25, 28, 63], 25) := by decide +kernel
theorem dX4_describe_32 : decode cX4_describe 32 = .ok (.iload 4, 2) := by decide +kernel
theorem dX4_describe_34 : decode cX4_describe 34 = .ok (.ireturn, 1) := by decide +kernel
theorem dX4_describe_35 : decode cX4_describe 35 = .ok (.lload_n 1, 1) := by decide +kernel
theorem dX4_describe_36 : decode cX4_describe 36 = .ok (.lconst 0, 1) := by decide +kernel
theorem dX4_describe_37 : decode cX4_describe 37 = .ok (.lcmp, 1) := by decide +kernel
theorem dX4_describe_38 : decode cX4_describe 38 = .ok (.ifCond .ne 5, 3) := by decide +kernel
theorem dX4_describe_41 : decode cX4_describe 41 = .ok (.iconst (-1), 1) := by decide +kernel
theorem dX4_describe_42 : decode cX4_describe 42 = .ok (.ireturn, 1) := by decide +kernel
theorem dX4_describe_43 : decode cX4_describe 43 = .ok (.lload_n 1, 1) := by decide +kernel
theorem dX4_describe_44 : decode cX4_describe 44 = .ok (.invokestatic 111, 3) := by decide +kernel
theorem dX4_describe_47 : decode cX4_describe 47 = .ok (.istore 5, 2) := by decide +kernel
theorem dX4_describe_49 : decode cX4_describe 49 = .ok (.iload 4, 2) := by decide +kernel
theorem dX4_describe_51 : decode cX4_describe 51 = .ok (.iconst 2, 1) := by decide +kernel
theorem dX4_describe_52 : decode cX4_describe 52 = .ok (.if_icmp .ne 15, 3) := by decide +kernel
theorem dX4_describe_55 : decode cX4_describe 55 = .ok (.aload_n 0, 1) := by decide +kernel
theorem dX4_describe_56 : decode cX4_describe 56 = .ok (.getfield 12, 3) := by decide +kernel
theorem dX4_describe_59 : decode cX4_describe 59 = .ok (.iload 5, 2) := by decide +kernel
theorem dX4_describe_61 : decode cX4_describe 61 = .ok (.invokevirtual 114, 3) := by decide +kernel
theorem dX4_describe_64 : decode cX4_describe 64 = .ok (.goto 5, 3) := by decide +kernel
theorem dX4_describe_67 : decode cX4_describe 67 = .ok (.iload 5, 2) := by decide +kernel
theorem dX4_describe_69 : decode cX4_describe 69 = .ok (.ireturn, 1) := by decide +kernel
theorem dX4_describe_70 : decode cX4_describe 70 = .ok (.iload 4, 2) := by decide +kernel
theorem dX4_describe_72 : decode cX4_describe 72 = .ok (.iconst 3, 1) := by decide +kernel
theorem dX4_describe_73 : decode cX4_describe 73 = .ok (.if_icmp .ne 10, 3) := by decide +kernel
theorem dX4_describe_76 : decode cX4_describe 76 = .ok (.lload_n 1, 1) := by decide +kernel
theorem dX4_describe_77 : decode cX4_describe 77 = .ok (.invokestatic 117, 3) := by decide +kernel
theorem dX4_describe_80 : decode cX4_describe 80 = .ok (.goto 4, 3) := by decide +kernel
theorem dX4_describe_83 : decode cX4_describe 83 = .ok (.iconst (-1), 1) := by decide +kernel
theorem dX4_describe_84 : decode cX4_describe 84 = .ok (.ireturn, 1) := by decide +kernel
theorem dX4_describe_85 : decode cX4_describe 85 = .ok (.iconst (-1), 1) := by decide +kernel
theorem dX4_describe_86 : decode cX4_describe 86 = .ok (.ireturn, 1) := by decide +kernel
set_option maxRecDepth 20000 in
theorem ggX4_copyFigures_X4_comparable : GoodIn wsX4_copyFigures wsX4_comparable := goodIn_r _ [15, 5, 16, 17, 18, 19, 20, 21, 22, 23, 24, 25, 26, 27, 28, 29, 30, 31, 32, 33, 34, 35, 36, 37, 38, 39, 40, 41, 42, 43, 44, 45, 46, 47, 48, 57, 58, 59, 60, 61, 62, 63, 64, 65, 66] (by decide +kernel) (by decide +kernel)
set_option maxRecDepth 20000 in
theorem gX4_copyFigures_X4_comparable : GoodIn wsX4_copyFigures (wsV RX4 120 RX4 yX4_comparable wsX4_comparable) := goodIn_app (goodIn_of _ (by decide +kernel)) ggX4_copyFigures_X4_comparable
theorem dX4_copyFigures_0 : decode cX4_copyFigures 0 = .ok (.aload_n 1, 1) := by decide +kernel
theorem dX4_copyFigures_1 : decode cX4_copyFigures 1 = .ok (.iconst 0, 1) := by decide +kernel
theorem dX4_copyFigures_2 : decode cX4_copyFigures 2 = .ok (.aload_n 0, 1) := by decide +kernel
theorem dX4_copyFigures_3 : decode cX4_copyFigures 3 = .ok (.getfield 78, 3) := by decide +kernel
theorem dX4_copyFigures_6 : decode cX4_copyFigures 6 = .ok (.i2l, 1) := by decide +kernel
theorem dX4_copyFigures_7 : decode cX4_copyFigures 7 = .ok (.lastore, 1) := by decide +kernel
theorem dX4_copyFigures_8 : decode cX4_copyFigures 8 = .ok (.aload_n 1, 1) := by decide +kernel
theorem dX4_copyFigures_9 : decode cX4_copyFigures 9 = .ok (.iconst 1, 1) := by decide +kernel
theorem dX4_copyFigures_10 : decode cX4_copyFigures 10 = .ok (.aload_n 0, 1) := by decide +kernel
theorem dX4_copyFigures_11 : decode cX4_copyFigures 11 = .ok (.getfield 71, 3) := by decide +kernel
theorem dX4_copyFigures_14 : decode cX4_copyFigures 14 = .ok (.i2l, 1) := by decide +kernel
theorem dX4_copyFigures_15 : decode cX4_copyFigures 15 = .ok (.lastore, 1) := by decide +kernel
theorem dX4_copyFigures_16 : decode cX4_copyFigures 16 = .ok (.aload_n 1, 1) := by decide +kernel
theorem dX4_copyFigures_17 : decode cX4_copyFigures 17 = .ok (.iconst 2, 1) := by decide +kernel
theorem dX4_copyFigures_18 : decode cX4_copyFigures 18 = .ok (.aload_n 0, 1) := by decide +kernel
theorem dX4_copyFigures_19 : decode cX4_copyFigures 19 = .ok (.getfield 36, 3) := by decide +kernel
theorem dX4_copyFigures_22 : decode cX4_copyFigures 22 = .ok (.getfield 87, 3) := by decide +kernel
theorem dX4_copyFigures_25 : decode cX4_copyFigures 25 = .ok (.i2l, 1) := by decide +kernel
theorem dX4_copyFigures_26 : decode cX4_copyFigures 26 = .ok (.lastore, 1) := by decide +kernel
theorem dX4_copyFigures_27 : decode cX4_copyFigures 27 = .ok (.aload_n 1, 1) := by decide +kernel
theorem dX4_copyFigures_28 : decode cX4_copyFigures 28 = .ok (.iconst 3, 1) := by decide +kernel
theorem dX4_copyFigures_29 : decode cX4_copyFigures 29 = .ok (.aload_n 0, 1) := by decide +kernel
theorem dX4_copyFigures_30 : decode cX4_copyFigures 30 = .ok (.getfield 12, 3) := by decide +kernel
theorem dX4_copyFigures_33 : decode cX4_copyFigures 33 = .ok (.getfield 90, 3) := by decide +kernel
theorem dX4_copyFigures_36 : decode cX4_copyFigures 36 = .ok (.i2l, 1) := by decide +kernel
theorem dX4_copyFigures_37 : decode cX4_copyFigures 37 = .ok (.lastore, 1) := by decide +kernel
theorem dX4_copyFigures_38 : decode cX4_copyFigures 38 = .ok (.aload_n 1, 1) := by decide +kernel
theorem dX4_copyFigures_39 : decode cX4_copyFigures 39 = .ok (.iconst 4, 1) := by decide +kernel
theorem dX4_copyFigures_40 : decode cX4_copyFigures 40 = .ok (.aload_n 0, 1) := by decide +kernel
theorem dX4_copyFigures_41 : decode cX4_copyFigures 41 = .ok (.getfield 93, 3) := by decide +kernel
theorem dX4_copyFigures_44 : decode cX4_copyFigures 44 = .ok (.i2l, 1) := by decide +kernel
theorem dX4_copyFigures_45 : decode cX4_copyFigures 45 = .ok (.lastore, 1) := by decide +kernel
theorem dX4_copyFigures_46 : decode cX4_copyFigures 46 = .ok (.aload_n 1, 1) := by decide +kernel
theorem dX4_copyFigures_47 : decode cX4_copyFigures 47 = .ok (.iconst 5, 1) := by decide +kernel
theorem dX4_copyFigures_48 : decode cX4_copyFigures 48 = .ok (.aload_n 0, 1) := by decide +kernel
theorem dX4_copyFigures_49 : decode cX4_copyFigures 49 = .ok (.getfield 96, 3) := by decide +kernel
theorem dX4_copyFigures_52 : decode cX4_copyFigures 52 = .ok (.i2l, 1) := by decide +kernel
theorem dX4_copyFigures_53 : decode cX4_copyFigures 53 = .ok (.lastore, 1) := by decide +kernel
theorem dX4_copyFigures_54 : decode cX4_copyFigures 54 = .ok (.iconst 0, 1) := by decide +kernel
theorem dX4_copyFigures_55 : decode cX4_copyFigures 55 = .ok (.istore_n 2, 1) := by decide +kernel
theorem dX4_copyFigures_56 : decode cX4_copyFigures 56 = .ok (.iload_n 2, 1) := by decide +kernel
theorem dX4_copyFigures_57 : decode cX4_copyFigures 57 = .ok (.bipush 10, 2) := by decide +kernel
theorem dX4_copyFigures_59 : decode cX4_copyFigures 59 = .ok (.if_icmp .ge 25, 3) := by decide +kernel
theorem dX4_copyFigures_62 : decode cX4_copyFigures 62 = .ok (.aload_n 1, 1) := by decide +kernel
theorem dX4_copyFigures_63 : decode cX4_copyFigures 63 = .ok (.bipush 10, 2) := by decide +kernel
theorem dX4_copyFigures_65 : decode cX4_copyFigures 65 = .ok (.iload_n 2, 1) := by decide +kernel
theorem dX4_copyFigures_66 : decode cX4_copyFigures 66 = .ok (.iadd, 1) := by decide +kernel
theorem dX4_copyFigures_67 : decode cX4_copyFigures 67 = .ok (.aload_n 0, 1) := by decide +kernel
theorem dX4_copyFigures_68 : decode cX4_copyFigures 68 = .ok (.aload_n 0, 1) := by decide +kernel
theorem dX4_copyFigures_69 : decode cX4_copyFigures 69 = .ok (.getfield 22, 3) := by decide +kernel
theorem dX4_copyFigures_72 : decode cX4_copyFigures 72 = .ok (.iload_n 2, 1) := by decide +kernel
theorem dX4_copyFigures_73 : decode cX4_copyFigures 73 = .ok (.laload, 1) := by decide +kernel
theorem dX4_copyFigures_74 : decode cX4_copyFigures 74 = .ok (.invokevirtual 120, 3) := by decide +kernel
theorem dX4_copyFigures_77 : decode cX4_copyFigures 77 = .ok (.lastore, 1) := by decide +kernel
theorem dX4_copyFigures_78 : decode cX4_copyFigures 78 = .ok (.iinc 2 1, 3) := by decide +kernel
theorem dX4_copyFigures_81 : decode cX4_copyFigures 81 = .ok (.goto (-25), 3) := by decide +kernel
theorem dX4_copyFigures_84 : decode cX4_copyFigures 84 = .ok (.iconst 0, 1) := by decide +kernel
theorem dX4_copyFigures_85 : decode cX4_copyFigures 85 = .ok (.istore_n 2, 1) := by decide +kernel
theorem dX4_copyFigures_86 : decode cX4_copyFigures 86 = .ok (.iload_n 2, 1) := by decide +kernel
theorem dX4_copyFigures_87 : decode cX4_copyFigures 87 = .ok (.bipush 80, 2) := by decide +kernel
theorem dX4_copyFigures_89 : decode cX4_copyFigures 89 = .ok (.if_icmp .ge 22, 3) := by decide +kernel
theorem dX4_copyFigures_92 : decode cX4_copyFigures 92 = .ok (.aload_n 1, 1) := by decide +kernel
theorem dX4_copyFigures_93 : decode cX4_copyFigures 93 = .ok (.bipush 20, 2) := by decide +kernel
theorem dX4_copyFigures_95 : decode cX4_copyFigures 95 = .ok (.iload_n 2, 1) := by decide +kernel
theorem dX4_copyFigures_96 : decode cX4_copyFigures 96 = .ok (.iadd, 1) := by decide +kernel
theorem dX4_copyFigures_97 : decode cX4_copyFigures 97 = .ok (.aload_n 0, 1) := by decide +kernel
theorem dX4_copyFigures_98 : decode cX4_copyFigures 98 = .ok (.getfield 18, 3) := by decide +kernel
theorem dX4_copyFigures_101 : decode cX4_copyFigures 101 = .ok (.iload_n 2, 1) := by decide +kernel
theorem dX4_copyFigures_102 : decode cX4_copyFigures 102 = .ok (.iaload, 1) := by decide +kernel
theorem dX4_copyFigures_103 : decode cX4_copyFigures 103 = .ok (.i2l, 1) := by decide +kernel
theorem dX4_copyFigures_104 : decode cX4_copyFigures 104 = .ok (.lastore, 1) := by decide +kernel
theorem dX4_copyFigures_105 : decode cX4_copyFigures 105 = .ok (.iinc 2 1, 3) := by decide +kernel
theorem dX4_copyFigures_108 : decode cX4_copyFigures 108 = .ok (.goto (-22), 3) := by decide +kernel
theorem dX4_copyFigures_111 : decode cX4_copyFigures 111 = .ok (.return_, 1) := by decide +kernel
set_option maxRecDepth 20000 in
theorem ggX4_comparable_X8_sortOf : GoodIn wsX4_comparable wsX8_sortOf := goodIn_r _ [5] (by decide +kernel) (by decide +kernel)
set_option maxRecDepth 20000 in
theorem gX4_comparable_X8_sortOf : GoodIn wsX4_comparable (va_wsS RX4 105 yX8_sortOf wsX8_sortOf) := goodIn_app (goodIn_of _ (by decide +kernel)) ggX4_comparable_X8_sortOf
set_option maxRecDepth 20000 in
theorem ggX4_comparable_X8_contentOf : GoodIn wsX4_comparable wsX8_contentOf := goodIn_r _ [8] (by decide +kernel) (by decide +kernel)
set_option maxRecDepth 20000 in
theorem gX4_comparable_X8_contentOf : GoodIn wsX4_comparable (va_wsS RX4 111 yX8_contentOf wsX8_contentOf) := goodIn_app (goodIn_of _ (by decide +kernel)) ggX4_comparable_X8_contentOf
set_option maxRecDepth 20000 in
theorem ggX4_comparable_X6_sizeOf : GoodIn wsX4_comparable wsX6_sizeOf := goodIn_r _ [13, 14, 15, 35, 36, 37, 38, 39, 40, 41, 42, 43, 44] (by decide +kernel) (by decide +kernel)
set_option maxRecDepth 20000 in
theorem gX4_comparable_X6_sizeOf : GoodIn wsX4_comparable (wsV RX4 114 RX6 yX6_sizeOf wsX6_sizeOf) := goodIn_app (goodIn_of _ (by decide +kernel)) ggX4_comparable_X6_sizeOf
set_option maxRecDepth 20000 in
theorem ggX4_comparable_X8_ofRow : GoodIn wsX4_comparable wsX8_ofRow := goodIn_r _ [18, 19, 20] (by decide +kernel) (by decide +kernel)
set_option maxRecDepth 20000 in
theorem gX4_comparable_X8_ofRow : GoodIn wsX4_comparable (va_wsS RX4 124 yX8_ofRow wsX8_ofRow) := goodIn_app (goodIn_of _ (by decide +kernel)) ggX4_comparable_X8_ofRow
theorem dX4_comparable_0 : decode cX4_comparable 0 = .ok (.lload_n 1, 1) := by decide +kernel
theorem dX4_comparable_1 : decode cX4_comparable 1 = .ok (.invokestatic 105, 3) := by decide +kernel
theorem dX4_comparable_4 : decode cX4_comparable 4 = .ok (.iconst 2, 1) := by decide +kernel
theorem dX4_comparable_5 : decode cX4_comparable 5 = .ok (.if_icmp .eq 5, 3) := by decide +kernel
theorem dX4_comparable_8 : decode cX4_comparable 8 = .ok (.lload_n 1, 1) := by decide +kernel
theorem dX4_comparable_9 : decode cX4_comparable 9 = .ok (.lreturn, 1) := by decide +kernel
theorem dX4_comparable_10 : decode cX4_comparable 10 = .ok (.aload_n 0, 1) := by decide +kernel
theorem dX4_comparable_11 : decode cX4_comparable 11 = .ok (.getfield 12, 3) := by decide +kernel
theorem dX4_comparable_14 : decode cX4_comparable 14 = .ok (.lload_n 1, 1) := by decide +kernel
theorem dX4_comparable_15 : decode cX4_comparable 15 = .ok (.invokestatic 111, 3) := by decide +kernel
theorem dX4_comparable_18 : decode cX4_comparable 18 = .ok (.invokevirtual 114, 3) := by decide +kernel
theorem dX4_comparable_21 : decode cX4_comparable 21 = .ok (.invokestatic 124, 3) := by decide +kernel
theorem dX4_comparable_24 : decode cX4_comparable 24 = .ok (.lreturn, 1) := by decide +kernel
set_option maxRecDepth 20000 in
theorem ggX4_begin_X0_reset : GoodIn wsX4_begin wsX0_reset := goodIn_r _ [23, 24, 25, 26, 27, 22, 28, 29, 30, 31, 32, 33, 138, 139, 140, 141, 142, 143] (by decide +kernel) (by decide +kernel)
set_option maxRecDepth 20000 in
theorem gX4_begin_X0_reset : GoodIn wsX4_begin (wsV RX4 128 RX0 yX0_reset wsX0_reset) := goodIn_app (goodIn_of _ (by decide +kernel)) ggX4_begin_X0_reset
set_option maxRecDepth 20000 in
theorem ggX4_begin_X1_reset : GoodIn wsX4_begin wsX1_reset := goodIn_r _ [38, 39, 40, 41, 42, 43, 44, 45, 144, 145, 146, 147, 148, 149, 150, 151] (by decide +kernel) (by decide +kernel)
set_option maxRecDepth 20000 in
theorem gX4_begin_X1_reset : GoodIn wsX4_begin (wsV RX4 131 RX1 yX1_reset wsX1_reset) := goodIn_app (goodIn_of _ (by decide +kernel)) ggX4_begin_X1_reset
set_option maxRecDepth 20000 in
theorem ggX4_begin_X5_reset : GoodIn wsX4_begin wsX5_reset := goodIn_r _ [50, 51, 52, 152, 153, 154] (by decide +kernel) (by decide +kernel)
set_option maxRecDepth 20000 in
theorem gX4_begin_X5_reset : GoodIn wsX4_begin (wsV RX4 132 RX5 yX5_reset wsX5_reset) := goodIn_app (goodIn_of _ (by decide +kernel)) ggX4_begin_X5_reset
set_option maxRecDepth 20000 in
theorem ggX4_begin_X6_reset : GoodIn wsX4_begin wsX6_reset := goodIn_r _ [57, 58, 59, 60, 61, 62, 43, 44, 45, 155, 156, 157, 158, 159, 160, 161, 162, 163, 164] (by decide +kernel) (by decide +kernel)
set_option maxRecDepth 20000 in
theorem gX4_begin_X6_reset : GoodIn wsX4_begin (wsV RX4 133 RX6 yX6_reset wsX6_reset) := goodIn_app (goodIn_of _ (by decide +kernel)) ggX4_begin_X6_reset
set_option maxRecDepth 20000 in
theorem ggX4_begin_J7_fill_53178 : GoodIn wsX4_begin wsJ7_fill_53178 := goodIn_r _ [45] (by decide +kernel) (by decide +kernel)
set_option maxRecDepth 20000 in
theorem gX4_begin_J7_fill_53178 : GoodIn wsX4_begin (va_wsS RX4 134 yJ7_fill_53178 wsJ7_fill_53178) := goodIn_app (goodIn_of _ (by decide +kernel)) ggX4_begin_J7_fill_53178
set_option maxRecDepth 20000 in
theorem ggX4_begin_J7_fill_d0a16 : GoodIn wsX4_begin wsJ7_fill_d0a16 := goodIn_r _ [66] (by decide +kernel) (by decide +kernel)
set_option maxRecDepth 20000 in
theorem gX4_begin_J7_fill_d0a16 : GoodIn wsX4_begin (va_wsS RX4 140 yJ7_fill_d0a16 wsJ7_fill_d0a16) := goodIn_app (goodIn_of _ (by decide +kernel)) ggX4_begin_J7_fill_d0a16
set_option maxRecDepth 20000 in
theorem ggX4_begin_X8_ofNumber : GoodIn wsX4_begin wsX8_ofNumber := goodIn_r _ [70, 71, 72] (by decide +kernel) (by decide +kernel)
set_option maxRecDepth 20000 in
theorem gX4_begin_X8_ofNumber : GoodIn wsX4_begin (va_wsS RX4 151 yX8_ofNumber wsX8_ofNumber) := goodIn_app (goodIn_of _ (by decide +kernel)) ggX4_begin_X8_ofNumber
set_option maxRecDepth 20000 in
theorem ggX4_begin_X4_arrive : GoodIn wsX4_begin wsX4_arrive := goodIn_r _ [77, 2, 7, 14, 78, 3, 79, 80, 81, 37, 82, 41, 83, 84, 85, 86, 87, 88, 40, 89, 90, 91, 92, 93, 94, 95, 96, 97, 76, 98, 13, 99, 100, 101, 102, 103, 39, 104, 105, 106, 49, 107, 52, 108, 109, 110, 111, 112, 113, 114, 115, 116, 117, 118, 119, 120, 121, 122, 123, 124, 125, 126, 127, 128, 129, 130, 131, 132, 133, 134, 135, 136, 137, 144, 145, 146, 147, 148, 149, 150, 151, 152, 153, 154] (by decide +kernel) (by decide +kernel)
set_option maxRecDepth 20000 in
theorem gX4_begin_X4_arrive : GoodIn wsX4_begin (wsV RX4 160 RX4 yX4_arrive wsX4_arrive) := goodIn_app (goodIn_of _ (by decide +kernel)) ggX4_begin_X4_arrive
theorem dX4_begin_0 : decode cX4_begin 0 = .ok (.aload_n 0, 1) := by decide +kernel
theorem dX4_begin_1 : decode cX4_begin 1 = .ok (.getfield 29, 3) := by decide +kernel
theorem dX4_begin_4 : decode cX4_begin 4 = .ok (.invokevirtual 128, 3) := by decide +kernel
theorem dX4_begin_7 : decode cX4_begin 7 = .ok (.aload_n 0, 1) := by decide +kernel
theorem dX4_begin_8 : decode cX4_begin 8 = .ok (.getfield 36, 3) := by decide +kernel
theorem dX4_begin_11 : decode cX4_begin 11 = .ok (.invokevirtual 131, 3) := by decide +kernel
theorem dX4_begin_14 : decode cX4_begin 14 = .ok (.aload_n 0, 1) := by decide +kernel
theorem dX4_begin_15 : decode cX4_begin 15 = .ok (.getfield 43, 3) := by decide +kernel
theorem dX4_begin_18 : decode cX4_begin 18 = .ok (.invokevirtual 132, 3) := by decide +kernel
theorem dX4_begin_21 : decode cX4_begin 21 = .ok (.aload_n 0, 1) := by decide +kernel
theorem dX4_begin_22 : decode cX4_begin 22 = .ok (.getfield 12, 3) := by decide +kernel
theorem dX4_begin_25 : decode cX4_begin 25 = .ok (.invokevirtual 133, 3) := by decide +kernel
theorem dX4_begin_28 : decode cX4_begin 28 = .ok (.aload_n 0, 1) := by decide +kernel
theorem dX4_begin_29 : decode cX4_begin 29 = .ok (.getfield 18, 3) := by decide +kernel
theorem dX4_begin_32 : decode cX4_begin 32 = .ok (.iconst 0, 1) := by decide +kernel
theorem dX4_begin_33 : decode cX4_begin 33 = .ok (.invokestatic 134, 3) := by decide +kernel
theorem dX4_begin_36 : decode cX4_begin 36 = .ok (.aload_n 0, 1) := by decide +kernel
theorem dX4_begin_37 : decode cX4_begin 37 = .ok (.getfield 22, 3) := by decide +kernel
theorem dX4_begin_40 : decode cX4_begin 40 = .ok (.lconst 0, 1) := by decide +kernel
theorem dX4_begin_41 : decode cX4_begin 41 = .ok (.invokestatic 140, 3) := by decide +kernel
theorem dX4_begin_44 : decode cX4_begin 44 = .ok (.aload_n 0, 1) := by decide +kernel
theorem dX4_begin_45 : decode cX4_begin 45 = .ok (.iconst (-1), 1) := by decide +kernel
theorem dX4_begin_46 : decode cX4_begin 46 = .ok (.putfield 78, 3) := by decide +kernel
theorem dX4_begin_49 : decode cX4_begin 49 = .ok (.aload_n 0, 1) := by decide +kernel
theorem dX4_begin_50 : decode cX4_begin 50 = .ok (.iconst 0, 1) := by decide +kernel
theorem dX4_begin_51 : decode cX4_begin 51 = .ok (.putfield 71, 3) := by decide +kernel
theorem dX4_begin_54 : decode cX4_begin 54 = .ok (.aload_n 0, 1) := by decide +kernel
theorem dX4_begin_55 : decode cX4_begin 55 = .ok (.iconst 0, 1) := by decide +kernel
theorem dX4_begin_56 : decode cX4_begin 56 = .ok (.putfield 84, 3) := by decide +kernel
theorem dX4_begin_59 : decode cX4_begin 59 = .ok (.aload_n 0, 1) := by decide +kernel
theorem dX4_begin_60 : decode cX4_begin 60 = .ok (.iconst 0, 1) := by decide +kernel
theorem dX4_begin_61 : decode cX4_begin 61 = .ok (.putfield 75, 3) := by decide +kernel
theorem dX4_begin_64 : decode cX4_begin 64 = .ok (.aload_n 0, 1) := by decide +kernel
theorem dX4_begin_65 : decode cX4_begin 65 = .ok (.iconst 0, 1) := by decide +kernel
theorem dX4_begin_66 : decode cX4_begin 66 = .ok (.putfield 93, 3) := by decide +kernel
theorem dX4_begin_69 : decode cX4_begin 69 = .ok (.aload_n 0, 1) := by decide +kernel
theorem dX4_begin_70 : decode cX4_begin 70 = .ok (.iconst 0, 1) := by decide +kernel
theorem dX4_begin_71 : decode cX4_begin 71 = .ok (.putfield 96, 3) := by decide +kernel
theorem dX4_begin_74 : decode cX4_begin 74 = .ok (.aload_n 0, 1) := by decide +kernel
theorem dX4_begin_75 : decode cX4_begin 75 = .ok (.iconst (-1), 1) := by decide +kernel
theorem dX4_begin_76 : decode cX4_begin 76 = .ok (.putfield 102, 3) := by decide +kernel
theorem dX4_begin_79 : decode cX4_begin 79 = .ok (.iconst 0, 1) := by decide +kernel
theorem dX4_begin_80 : decode cX4_begin 80 = .ok (.istore_n 1, 1) := by decide +kernel
theorem dX4_begin_81 : decode cX4_begin 81 = .ok (.iload_n 1, 1) := by decide +kernel
theorem dX4_begin_82 : decode cX4_begin 82 = .ok (.aload_n 0, 1) := by decide +kernel
theorem dX4_begin_83 : decode cX4_begin 83 = .ok (.getfield 47, 3) := by decide +kernel
theorem dX4_begin_86 : decode cX4_begin 86 = .ok (.getfield 143, 3) := by decide +kernel
theorem dX4_begin_89 : decode cX4_begin 89 = .ok (.if_icmp .ge 54, 3) := by decide +kernel
theorem dX4_begin_92 : decode cX4_begin 92 = .ok (.aload_n 0, 1) := by decide +kernel
theorem dX4_begin_93 : decode cX4_begin 93 = .ok (.getfield 78, 3) := by decide +kernel
theorem dX4_begin_96 : decode cX4_begin 96 = .ok (.iconst (-1), 1) := by decide +kernel
theorem dX4_begin_97 : decode cX4_begin 97 = .ok (.if_icmp .ne 46, 3) := by decide +kernel
theorem dX4_begin_100 : decode cX4_begin 100 = .ok (.aload_n 0, 1) := by decide +kernel
theorem dX4_begin_101 : decode cX4_begin 101 = .ok (.getfield 47, 3) := by decide +kernel
theorem dX4_begin_104 : decode cX4_begin 104 = .ok (.getfield 148, 3) := by decide +kernel
theorem dX4_begin_107 : decode cX4_begin 107 = .ok (.iload_n 1, 1) := by decide +kernel
theorem dX4_begin_108 : decode cX4_begin 108 = .ok (.iaload, 1) := by decide +kernel
theorem dX4_begin_109 : decode cX4_begin 109 = .ok (.invokestatic 151, 3) := by decide +kernel
theorem dX4_begin_112 : decode cX4_begin 112 = .ok (.lstore_n 2, 1) := by decide +kernel
theorem dX4_begin_113 : decode cX4_begin 113 = .ok (.aload_n 0, 1) := by decide +kernel
theorem dX4_begin_114 : decode cX4_begin 114 = .ok (.aload_n 0, 1) := by decide +kernel
theorem dX4_begin_115 : decode cX4_begin 115 = .ok (.getfield 47, 3) := by decide +kernel
theorem dX4_begin_118 : decode cX4_begin 118 = .ok (.getfield 154, 3) := by decide +kernel
theorem dX4_begin_121 : decode cX4_begin 121 = .ok (.iload_n 1, 1) := by decide +kernel
theorem dX4_begin_122 : decode cX4_begin 122 = .ok (.iaload, 1) := by decide +kernel
theorem dX4_begin_123 : decode cX4_begin 123 = .ok (.aload_n 0, 1) := by decide +kernel
theorem dX4_begin_124 : decode cX4_begin 124 = .ok (.getfield 47, 3) := by decide +kernel
theorem dX4_begin_127 : decode cX4_begin 127 = .ok (.getfield 157, 3) := by decide +kernel
theorem dX4_begin_130 : decode cX4_begin 130 = .ok (.iload_n 1, 1) := by decide +kernel
theorem dX4_begin_131 : decode cX4_begin 131 = .ok (.iaload, 1) := by decide +kernel
theorem dX4_begin_132 : decode cX4_begin 132 = .ok (.iconst 0, 1) := by decide +kernel
theorem dX4_begin_133 : decode cX4_begin 133 = .ok (.lload_n 2, 1) := by decide +kernel
theorem dX4_begin_134 : decode cX4_begin 134 = .ok (.invokevirtual 160, 3) := by decide +kernel
theorem dX4_begin_137 : decode cX4_begin 137 = .ok (.iinc 1 1, 3) := by decide +kernel
theorem dX4_begin_140 : decode cX4_begin 140 = .ok (.goto (-59), 3) := by decide +kernel
theorem dX4_begin_143 : decode cX4_begin 143 = .ok (.return_, 1) := by decide +kernel
set_option maxRecDepth 20000 in
theorem ggX4_mayStep_X5_size : GoodIn wsX4_mayStep wsX5_size := goodIn_r _ [8, 9, 10, 25, 26, 27] (by decide +kernel) (by decide +kernel)
set_option maxRecDepth 20000 in
theorem gX4_mayStep_X5_size : GoodIn wsX4_mayStep (wsV RX4 59 RX5 yX5_size wsX5_size) := goodIn_app (goodIn_of _ (by decide +kernel)) ggX4_mayStep_X5_size
theorem dX4_mayStep_0 : decode cX4_mayStep 0 = .ok (.aload_n 0, 1) := by decide +kernel
theorem dX4_mayStep_1 : decode cX4_mayStep 1 = .ok (.getfield 78, 3) := by decide +kernel
theorem dX4_mayStep_4 : decode cX4_mayStep 4 = .ok (.iconst (-1), 1) := by decide +kernel
theorem dX4_mayStep_5 : decode cX4_mayStep 5 = .ok (.if_icmp .ne 34, 3) := by decide +kernel
theorem dX4_mayStep_8 : decode cX4_mayStep 8 = .ok (.aload_n 0, 1) := by decide +kernel
theorem dX4_mayStep_9 : decode cX4_mayStep 9 = .ok (.getfield 43, 3) := by decide +kernel
theorem dX4_mayStep_12 : decode cX4_mayStep 12 = .ok (.invokevirtual 59, 3) := by decide +kernel
theorem dX4_mayStep_15 : decode cX4_mayStep 15 = .ok (.ifCond .ne 11, 3) := by decide +kernel
theorem dX4_mayStep_18 : decode cX4_mayStep 18 = .ok (.aload_n 0, 1) := by decide +kernel
theorem dX4_mayStep_19 : decode cX4_mayStep 19 = .ok (.iconst 0, 1) := by decide +kernel
theorem dX4_mayStep_20 : decode cX4_mayStep 20 = .ok (.putfield 78, 3) := by decide +kernel
theorem dX4_mayStep_23 : decode cX4_mayStep 23 = .ok (.goto 16, 3) := by decide +kernel
theorem dX4_mayStep_26 : decode cX4_mayStep 26 = .ok (.aload_n 0, 1) := by decide +kernel
theorem dX4_mayStep_27 : decode cX4_mayStep 27 = .ok (.getfield 71, 3) := by decide +kernel
theorem dX4_mayStep_30 : decode cX4_mayStep 30 = .ok (.iload_n 1, 1) := by decide +kernel
theorem dX4_mayStep_31 : decode cX4_mayStep 31 = .ok (.if_icmp .lt 8, 3) := by decide +kernel
theorem dX4_mayStep_34 : decode cX4_mayStep 34 = .ok (.aload_n 0, 1) := by decide +kernel
theorem dX4_mayStep_35 : decode cX4_mayStep 35 = .ok (.iconst 3, 1) := by decide +kernel
theorem dX4_mayStep_36 : decode cX4_mayStep 36 = .ok (.putfield 78, 3) := by decide +kernel
theorem dX4_mayStep_39 : decode cX4_mayStep 39 = .ok (.aload_n 0, 1) := by decide +kernel
theorem dX4_mayStep_40 : decode cX4_mayStep 40 = .ok (.getfield 78, 3) := by decide +kernel
theorem dX4_mayStep_43 : decode cX4_mayStep 43 = .ok (.iconst (-1), 1) := by decide +kernel
theorem dX4_mayStep_44 : decode cX4_mayStep 44 = .ok (.if_icmp .ne 7, 3) := by decide +kernel
theorem dX4_mayStep_47 : decode cX4_mayStep 47 = .ok (.iconst 1, 1) := by decide +kernel
theorem dX4_mayStep_48 : decode cX4_mayStep 48 = .ok (.goto 4, 3) := by decide +kernel
theorem dX4_mayStep_51 : decode cX4_mayStep 51 = .ok (.iconst 0, 1) := by decide +kernel
theorem dX4_mayStep_52 : decode cX4_mayStep 52 = .ok (.ireturn, 1) := by decide +kernel
set_option maxRecDepth 20000 in
theorem ggX4_goTick_X5_size : GoodIn wsX4_goTick wsX5_size := goodIn_r _ [12, 13, 14, 289, 290, 291] (by decide +kernel) (by decide +kernel)
set_option maxRecDepth 20000 in
theorem gX4_goTick_X5_size : GoodIn wsX4_goTick (wsV RX4 59 RX5 yX5_size wsX5_size) := goodIn_app (goodIn_of _ (by decide +kernel)) ggX4_goTick_X5_size
set_option maxRecDepth 20000 in
theorem ggX4_goTick_X4_mayStep : GoodIn wsX4_goTick wsX4_mayStep := goodIn_r _ [19, 20, 1, 21, 8, 9, 10, 11, 12, 13, 14, 275, 276, 277, 278, 279, 280, 281, 282, 283, 284, 285, 286, 287, 288, 289, 290, 291] (by decide +kernel) (by decide +kernel)
set_option maxRecDepth 20000 in
theorem gX4_goTick_X4_mayStep : GoodIn wsX4_goTick (wsV RX4 54 RX4 yX4_mayStep wsX4_mayStep) := goodIn_app (goodIn_of _ (by decide +kernel)) ggX4_goTick_X4_mayStep
set_option maxRecDepth 20000 in
theorem ggX4_goTick_X5_take : GoodIn wsX4_goTick wsX5_take := goodIn_r _ [25, 14, 26, 13, 27, 28, 29, 30, 31, 9, 10, 11, 12, 289, 290, 291] (by decide +kernel) (by decide +kernel)
set_option maxRecDepth 20000 in
theorem gX4_goTick_X5_take : GoodIn wsX4_goTick (wsV RX4 63 RX5 yX5_take wsX5_take) := goodIn_app (goodIn_of _ (by decide +kernel)) ggX4_goTick_X5_take
set_option maxRecDepth 20000 in
theorem ggX4_goTick_X4_goOff : GoodIn wsX4_goTick wsX4_goOff := goodIn_r _ [35, 36, 37, 38, 21, 39, 40, 41, 42, 43, 44, 45, 46, 47, 48, 49, 50, 51, 52, 18, 53, 54, 55, 56, 57, 58, 59, 60, 61, 62, 63, 64, 65, 20, 66, 67, 68, 69, 70, 71, 72, 73, 74, 75, 76, 77, 78, 79, 1, 80, 81, 82, 83, 84, 85, 86, 87, 88, 89, 90, 91, 92, 93, 94, 95, 96, 97, 98, 99, 100, 101, 102, 103, 104, 105, 106, 107, 108, 109, 110, 11, 111, 13, 26, 112, 113, 114, 115, 116, 117, 118, 119, 120, 121, 122, 123, 124, 125, 126, 127, 128, 129, 130, 131, 132, 133, 134, 135, 136, 137, 138, 139, 140, 141, 142, 143, 144, 145, 146, 147, 148, 149, 150, 151, 152, 153, 154, 155, 156, 157, 158, 159, 160, 161, 162, 163, 164, 165, 166, 167, 168, 169, 170, 171, 172, 173, 174, 175, 176, 177, 178, 179, 180, 181, 182, 183, 184, 185, 186, 187, 188, 189, 190, 191, 192, 193, 194, 195, 196, 197, 198, 199, 200, 201, 202, 203, 204, 205, 206, 207, 208, 209, 210, 211, 212, 213, 214, 215, 216, 217, 218, 219, 220, 221, 222, 223, 224, 225, 226, 227, 228, 229, 230, 231, 232, 233, 234, 235, 236, 237, 238, 239, 240, 241, 242, 243, 244, 245, 246, 247, 248, 249, 250, 251, 252, 253, 254, 255, 256, 257, 258, 259, 260, 261, 262, 263, 264, 265, 266, 267, 268, 269, 270, 271, 272, 273, 274, 275, 276, 277, 278, 279, 280, 281, 282, 283, 284, 285, 286, 287, 288, 292, 293, 294, 295, 296, 297, 298, 299, 300, 301, 302, 303, 304, 305, 306, 307, 308, 309, 310, 311, 312, 313, 314, 289, 290, 291, 315, 316, 317, 318, 319, 320, 321, 322, 323, 324, 325, 326, 327, 328, 329, 330] (by decide +kernel) (by decide +kernel)
set_option maxRecDepth 20000 in
theorem gX4_goTick_X4_goOff : GoodIn wsX4_goTick (wsV RX4 67 RX4 yX4_goOff wsX4_goOff) := goodIn_app (goodIn_of _ (by decide +kernel)) ggX4_goTick_X4_goOff
theorem dX4_goTick_0 : decode cX4_goTick 0 = .ok (.aload_n 0, 1) := by decide +kernel
theorem dX4_goTick_1 : decode cX4_goTick 1 = .ok (.getfield 43, 3) := by decide +kernel
theorem dX4_goTick_4 : decode cX4_goTick 4 = .ok (.invokevirtual 59, 3) := by decide +kernel
theorem dX4_goTick_7 : decode cX4_goTick 7 = .ok (.istore_n 2, 1) := by decide +kernel
theorem dX4_goTick_8 : decode cX4_goTick 8 = .ok (.iconst 0, 1) := by decide +kernel
theorem dX4_goTick_9 : decode cX4_goTick 9 = .ok (.istore_n 3, 1) := by decide +kernel
theorem dX4_goTick_10 : decode cX4_goTick 10 = .ok (.iload_n 3, 1) := by decide +kernel
theorem dX4_goTick_11 : decode cX4_goTick 11 = .ok (.iload_n 2, 1) := by decide +kernel
theorem dX4_goTick_12 : decode cX4_goTick 12 = .ok (.if_icmp .ge 29, 3) := by decide +kernel
theorem dX4_goTick_15 : decode cX4_goTick 15 = .ok (.aload_n 0, 1) := by decide +kernel
theorem dX4_goTick_16 : decode cX4_goTick 16 = .ok (.iload_n 1, 1) := by decide +kernel
theorem dX4_goTick_17 : decode cX4_goTick 17 = .ok (.invokevirtual 54, 3) := by decide +kernel
theorem dX4_goTick_20 : decode cX4_goTick 20 = .ok (.ifCond .eq 21, 3) := by decide +kernel
theorem dX4_goTick_23 : decode cX4_goTick 23 = .ok (.aload_n 0, 1) := by decide +kernel
theorem dX4_goTick_24 : decode cX4_goTick 24 = .ok (.aload_n 0, 1) := by decide +kernel
theorem dX4_goTick_25 : decode cX4_goTick 25 = .ok (.getfield 43, 3) := by decide +kernel
theorem dX4_goTick_28 : decode cX4_goTick 28 = .ok (.iconst 0, 1) := by decide +kernel
theorem dX4_goTick_29 : decode cX4_goTick 29 = .ok (.invokevirtual 63, 3) := by decide +kernel
theorem dX4_goTick_32 : decode cX4_goTick 32 = .ok (.invokevirtual 67, 3) := by decide +kernel
theorem dX4_goTick_35 : decode cX4_goTick 35 = .ok (.iinc 3 1, 3) := by decide +kernel
theorem dX4_goTick_38 : decode cX4_goTick 38 = .ok (.goto (-28), 3) := by decide +kernel
theorem dX4_goTick_41 : decode cX4_goTick 41 = .ok (.aload_n 0, 1) := by decide +kernel
theorem dX4_goTick_42 : decode cX4_goTick 42 = .ok (.dup, 1) := by decide +kernel
theorem dX4_goTick_43 : decode cX4_goTick 43 = .ok (.getfield 84, 3) := by decide +kernel
theorem dX4_goTick_46 : decode cX4_goTick 46 = .ok (.iconst 1, 1) := by decide +kernel
theorem dX4_goTick_47 : decode cX4_goTick 47 = .ok (.iadd, 1) := by decide +kernel
theorem dX4_goTick_48 : decode cX4_goTick 48 = .ok (.putfield 84, 3) := by decide +kernel
theorem dX4_goTick_51 : decode cX4_goTick 51 = .ok (.aload_n 0, 1) := by decide +kernel
theorem dX4_goTick_52 : decode cX4_goTick 52 = .ok (.aload_n 0, 1) := by decide +kernel
theorem dX4_goTick_53 : decode cX4_goTick 53 = .ok (.getfield 75, 3) := by decide +kernel
theorem dX4_goTick_56 : decode cX4_goTick 56 = .ok (.iload_n 3, 1) := by decide +kernel
theorem dX4_goTick_57 : decode cX4_goTick 57 = .ok (.invokestatic 164, 3) := by decide +kernel
theorem dX4_goTick_60 : decode cX4_goTick 60 = .ok (.putfield 75, 3) := by decide +kernel
theorem dX4_goTick_63 : decode cX4_goTick 63 = .ok (.return_, 1) := by decide +kernel
set_option maxRecDepth 20000 in
theorem ggX4_goOff_X1_cameTo : GoodIn wsX4_goOff wsX1_cameTo := goodIn_r _ [14, 15, 261, 262, 263, 264, 265, 266, 267, 268] (by decide +kernel) (by decide +kernel)
set_option maxRecDepth 20000 in
theorem gX4_goOff_X1_cameTo : GoodIn wsX4_goOff (wsV RX4 175 RX1 yX1_cameTo wsX1_cameTo) := goodIn_app (goodIn_of _ (by decide +kernel)) ggX4_goOff_X1_cameTo
set_option maxRecDepth 20000 in
theorem ggX4_goOff_X4_goSwitch : GoodIn wsX4_goOff wsX4_goSwitch := goodIn_r _ [20, 21, 22, 23, 24, 25, 26, 27, 28, 29, 30, 31, 19, 32, 6, 33, 34, 35, 36, 37, 38, 39, 40, 41, 42, 43, 44, 45, 46, 1, 47, 48, 49, 50, 51, 13, 52, 53, 54, 55, 56, 57, 58, 59, 60, 61, 62, 63, 64, 65, 66, 67, 68, 69, 70, 71, 72, 73, 74, 75, 15, 76, 77, 78, 79, 80, 81, 82, 83, 247, 248, 249, 250, 251, 252, 253, 254, 255, 256, 257, 258, 259, 260, 269, 270, 271, 272, 273, 274, 275, 276, 277, 278, 279, 280, 281, 282, 283, 261, 262, 263, 264, 265, 266, 267, 268, 284, 285, 286] (by decide +kernel) (by decide +kernel)
set_option maxRecDepth 20000 in
theorem gX4_goOff_X4_goSwitch : GoodIn wsX4_goOff (wsV RX4 182 RX4 yX4_goSwitch wsX4_goSwitch) := goodIn_app (goodIn_of _ (by decide +kernel)) ggX4_goOff_X4_goSwitch
set_option maxRecDepth 20000 in
theorem ggX4_goOff_X0_enter : GoodIn wsX4_goOff wsX0_enter := goodIn_r _ [88, 89, 90, 91, 87, 92, 93, 94, 95, 96, 97, 98, 99, 100, 101, 102, 287, 288, 289, 290, 291, 292] (by decide +kernel) (by decide +kernel)
set_option maxRecDepth 20000 in
theorem gX4_goOff_X0_enter : GoodIn wsX4_goOff (wsV RX4 189 RX0 yX0_enter wsX0_enter) := goodIn_app (goodIn_of _ (by decide +kernel)) ggX4_goOff_X0_enter
set_option maxRecDepth 20000 in
theorem ggX4_goOff_X4_giveInside : GoodIn wsX4_goOff wsX4_giveInside := goodIn_r _ [106, 33, 29, 30, 31, 19, 32, 6, 34, 35, 36, 37, 38, 39, 40, 41, 42, 43, 44, 45, 46, 1, 47, 48, 49, 50, 51, 13, 52, 53, 54, 55, 56, 57, 58, 59, 60, 61, 62, 63, 64, 65, 66, 67, 68, 69, 70, 71, 72, 73, 74, 75, 15, 76, 77, 78, 79, 80, 81, 82, 83, 247, 248, 249, 250, 251, 252, 253, 254, 255, 256, 257, 258, 259, 260, 269, 270, 271, 272, 273, 274, 275, 276, 277, 278, 279, 280, 281, 282, 283, 261, 262, 263, 264, 265, 266, 267, 268, 284, 285, 286] (by decide +kernel) (by decide +kernel)
set_option maxRecDepth 20000 in
theorem gX4_goOff_X4_giveInside : GoodIn wsX4_goOff (wsV RX4 192 RX4 yX4_giveInside wsX4_giveInside) := goodIn_app (goodIn_of _ (by decide +kernel)) ggX4_goOff_X4_giveInside
set_option maxRecDepth 20000 in
theorem ggX4_goOff_X4_goTurn : GoodIn wsX4_goOff wsX4_goTurn := goodIn_r _ [110, 8, 6, 9, 7, 111, 112, 113, 87, 114, 101, 115, 116, 24, 117, 118, 119, 29, 30, 31, 19, 32, 33, 34, 35, 36, 37, 38, 39, 40, 41, 42, 43, 44, 45, 46, 1, 47, 48, 49, 50, 51, 13, 52, 53, 54, 55, 56, 57, 58, 59, 60, 61, 62, 63, 64, 65, 66, 67, 68, 69, 70, 71, 72, 73, 74, 75, 15, 76, 77, 78, 79, 80, 81, 82, 83, 120, 121, 122, 123, 102, 89, 90, 91, 92, 93, 94, 95, 96, 97, 98, 99, 100, 103, 104, 105, 106, 124, 125, 126, 127, 247, 248, 249, 250, 251, 252, 253, 254, 255, 256, 257, 258, 259, 260, 269, 270, 271, 272, 273, 274, 275, 276, 277, 278, 279, 280, 281, 282, 283, 287, 288, 289, 290, 291, 292, 261, 262, 263, 264, 265, 266, 267, 268, 284, 285, 286] (by decide +kernel) (by decide +kernel)
set_option maxRecDepth 20000 in
theorem gX4_goOff_X4_goTurn : GoodIn wsX4_goOff (wsV RX4 196 RX4 yX4_goTurn wsX4_goTurn) := goodIn_app (goodIn_of _ (by decide +kernel)) ggX4_goOff_X4_goTurn
set_option maxRecDepth 20000 in
theorem ggX4_goOff_X4_goCall : GoodIn wsX4_goOff wsX4_goCall := goodIn_r _ [131, 8, 33, 6, 47, 1, 132, 133, 134, 87, 135, 89, 90, 91, 92, 93, 94, 95, 96, 97, 98, 99, 100, 101, 102, 136, 137, 138, 40, 139, 140, 141, 10, 11, 12, 13, 14, 15, 43, 44, 45, 19, 46, 48, 49, 50, 51, 52, 53, 54, 55, 56, 57, 58, 59, 60, 61, 62, 63, 64, 65, 66, 67, 68, 69, 70, 71, 72, 73, 74, 75, 76, 77, 78, 79, 80, 81, 82, 83, 247, 248, 249, 250, 251, 252, 253, 254, 255, 256, 257, 258, 259, 260, 269, 270, 271, 272, 273, 274, 275, 276, 277, 278, 279, 280, 281, 282, 283, 287, 288, 289, 290, 291, 292, 261, 262, 263, 264, 265, 266, 267, 268, 284, 285, 286] (by decide +kernel) (by decide +kernel)
set_option maxRecDepth 20000 in
theorem gX4_goOff_X4_goCall : GoodIn wsX4_goOff (wsV RX4 199 RX4 yX4_goCall wsX4_goCall) := goodIn_app (goodIn_of _ (by decide +kernel)) ggX4_goOff_X4_goCall
set_option maxRecDepth 20000 in
theorem ggX4_goOff_X4_goReturn : GoodIn wsX4_goOff wsX4_goReturn := goodIn_r _ [145, 8, 21, 146, 147, 148, 87, 149, 101, 124, 125, 126, 127, 102, 29, 30, 31, 19, 32, 6, 33, 34, 35, 36, 37, 38, 39, 40, 41, 42, 43, 44, 45, 46, 1, 47, 48, 49, 50, 51, 13, 52, 53, 54, 55, 56, 57, 58, 59, 60, 61, 62, 63, 64, 65, 66, 67, 68, 69, 70, 71, 72, 73, 74, 75, 15, 76, 77, 78, 79, 80, 81, 82, 83, 247, 248, 249, 250, 251, 252, 253, 254, 255, 256, 257, 258, 259, 260, 287, 288, 289, 290, 291, 292, 269, 270, 271, 272, 273, 274, 275, 276, 277, 278, 279, 280, 281, 282, 283, 261, 262, 263, 264, 265, 266, 267, 268, 284, 285, 286] (by decide +kernel) (by decide +kernel)
set_option maxRecDepth 20000 in
theorem gX4_goOff_X4_goReturn : GoodIn wsX4_goOff (wsV RX4 203 RX4 yX4_goReturn wsX4_goReturn) := goodIn_app (goodIn_of _ (by decide +kernel)) ggX4_goOff_X4_goReturn
set_option maxRecDepth 20000 in
theorem ggX4_goOff_X4_goMake : GoodIn wsX4_goOff wsX4_goMake := goodIn_r _ [153, 154, 33, 155, 156, 157, 24, 158, 159, 23, 25, 160, 116, 117, 118, 119, 26, 27, 28, 115, 29, 30, 31, 19, 32, 6, 34, 35, 36, 37, 38, 39, 40, 41, 42, 43, 44, 45, 46, 1, 47, 48, 49, 50, 51, 13, 52, 53, 54, 55, 56, 57, 58, 59, 60, 61, 62, 63, 64, 65, 66, 67, 68, 69, 70, 71, 72, 73, 74, 75, 15, 76, 77, 78, 79, 80, 81, 82, 83, 161, 162, 163, 164, 165, 166, 167, 168, 169, 170, 171, 172, 173, 174, 175, 176, 247, 248, 249, 250, 251, 252, 253, 254, 255, 256, 257, 258, 259, 260, 293, 294, 295, 296, 297, 298, 299, 300, 301, 302, 269, 270, 271, 272, 273, 274, 275, 276, 277, 278, 279, 280, 281, 282, 283, 261, 262, 263, 264, 265, 266, 267, 268, 284, 285, 286] (by decide +kernel) (by decide +kernel)
set_option maxRecDepth 20000 in
theorem gX4_goOff_X4_goMake : GoodIn wsX4_goOff (wsV RX4 207 RX4 yX4_goMake wsX4_goMake) := goodIn_app (goodIn_of _ (by decide +kernel)) ggX4_goOff_X4_goMake
set_option maxRecDepth 20000 in
theorem ggX4_goOff_X4_goRead : GoodIn wsX4_goOff wsX4_goRead := goodIn_r _ [180, 154, 181, 182, 183, 184, 19, 185, 1, 10, 11, 12, 13, 14, 15, 26, 27, 24, 28, 186, 187, 188, 164, 189, 168, 190, 191, 192, 193, 166, 169, 194, 195, 196, 197, 198, 199, 200, 159, 23, 25, 160, 116, 117, 118, 119, 115, 29, 30, 31, 32, 6, 33, 34, 35, 36, 37, 38, 39, 40, 41, 42, 43, 44, 45, 46, 47, 48, 49, 50, 51, 52, 53, 54, 55, 56, 57, 58, 59, 60, 61, 62, 63, 64, 65, 66, 67, 68, 69, 70, 71, 72, 73, 74, 75, 76, 77, 78, 79, 80, 81, 82, 83, 201, 202, 203, 204, 205, 172, 171, 206, 247, 248, 249, 250, 251, 252, 253, 254, 255, 256, 257, 258, 259, 260, 293, 294, 295, 296, 297, 298, 299, 300, 301, 302, 261, 262, 263, 264, 265, 266, 267, 268, 269, 270, 271, 272, 273, 274, 275, 276, 277, 278, 279, 280, 281, 282, 283, 284, 285, 286] (by decide +kernel) (by decide +kernel)
set_option maxRecDepth 20000 in
theorem gX4_goOff_X4_goRead : GoodIn wsX4_goOff (wsV RX4 210 RX4 yX4_goRead wsX4_goRead) := goodIn_app (goodIn_of _ (by decide +kernel)) ggX4_goOff_X4_goRead
set_option maxRecDepth 20000 in
theorem ggX4_goOff_X4_goWrite : GoodIn wsX4_goOff wsX4_goWrite := goodIn_r _ [210, 154, 181, 1, 2, 3, 33, 182, 183, 184, 19, 185, 10, 11, 12, 13, 14, 15, 26, 27, 24, 28, 186, 187, 188, 164, 189, 168, 190, 191, 192, 193, 166, 169, 194, 195, 196, 197, 198, 199, 200, 159, 23, 25, 160, 116, 117, 118, 119, 115, 29, 30, 31, 32, 6, 34, 35, 36, 37, 38, 39, 40, 41, 42, 43, 44, 45, 46, 47, 48, 49, 50, 51, 52, 53, 54, 55, 56, 57, 58, 59, 60, 61, 62, 63, 64, 65, 66, 67, 68, 69, 70, 71, 72, 73, 74, 75, 76, 77, 78, 79, 80, 81, 82, 83, 211, 212, 213, 214, 171, 205, 206, 247, 248, 249, 250, 251, 252, 253, 254, 255, 256, 257, 258, 259, 260, 293, 294, 295, 296, 297, 298, 299, 300, 301, 302, 261, 262, 263, 264, 265, 266, 267, 268, 269, 270, 271, 272, 273, 274, 275, 276, 277, 278, 279, 280, 281, 282, 283, 284, 285, 286] (by decide +kernel) (by decide +kernel)
set_option maxRecDepth 20000 in
theorem gX4_goOff_X4_goWrite : GoodIn wsX4_goOff (wsV RX4 213 RX4 yX4_goWrite wsX4_goWrite) := goodIn_app (goodIn_of _ (by decide +kernel)) ggX4_goOff_X4_goWrite
set_option maxRecDepth 20000 in
theorem ggX4_goOff_X4_goEnd : GoodIn wsX4_goOff wsX4_goEnd := goodIn_r _ [218, 6, 9, 219, 220, 67, 68, 69, 19, 70, 33, 71, 247, 248, 249, 250, 251, 252, 253, 254, 255, 256, 257, 258, 259, 260, 269, 270, 271, 272, 273, 274, 275, 276, 277, 278, 279, 280, 281, 282, 283] (by decide +kernel) (by decide +kernel)
set_option maxRecDepth 20000 in
theorem gX4_goOff_X4_goEnd : GoodIn wsX4_goOff (wsV RX4 216 RX4 yX4_goEnd wsX4_goEnd) := goodIn_app (goodIn_of _ (by decide +kernel)) ggX4_goOff_X4_goEnd
set_option maxRecDepth 20000 in
theorem ggX4_goOff_X4_plainResult : GoodIn wsX4_goOff wsX4_plainResult := goodIn_r _ [224, 6, 7, 9, 154, 1, 225, 226, 24, 227, 228, 119, 229, 230, 231, 232, 233, 157, 158, 159, 23, 25, 160, 116, 117, 118, 234, 27, 28, 235, 236, 237, 238, 156, 26, 239, 191, 192, 164, 193, 166, 169, 10, 11, 12, 13, 14, 15, 240, 241, 242, 243, 244, 199, 200, 245, 246, 247, 248, 249, 250, 251, 252, 253, 254, 255, 256, 257, 258, 259, 260, 269, 270, 271, 272, 273, 274, 275, 276, 277, 278, 279, 280, 281, 282, 283, 293, 294, 295, 296, 297, 298, 299, 300, 301, 302, 261, 262, 263, 264, 265, 266, 267, 268] (by decide +kernel) (by decide +kernel)
set_option maxRecDepth 20000 in
theorem gX4_goOff_X4_plainResult : GoodIn wsX4_goOff (wsV RX4 219 RX4 yX4_plainResult wsX4_plainResult) := goodIn_app (goodIn_of _ (by decide +kernel)) ggX4_goOff_X4_plainResult
set_option maxRecDepth 20000 in
theorem ggX4_goOff_X4_give : GoodIn wsX4_goOff wsX4_give := goodIn_r _ [32, 6, 33, 34, 35, 36, 37, 38, 39, 40, 41, 42, 43, 44, 45, 19, 46, 1, 47, 48, 49, 50, 51, 13, 52, 53, 54, 55, 56, 57, 58, 59, 60, 61, 62, 63, 64, 65, 66, 67, 68, 69, 70, 71, 72, 73, 74, 75, 15, 76, 77, 78, 79, 80, 81, 82, 83, 247, 248, 249, 250, 251, 252, 253, 254, 255, 256, 257, 258, 259, 260, 269, 270, 271, 272, 273, 274, 275, 276, 277, 278, 279, 280, 281, 282, 283, 261, 262, 263, 264, 265, 266, 267, 268, 284, 285, 286] (by decide +kernel) (by decide +kernel)
set_option maxRecDepth 20000 in
theorem gX4_goOff_X4_give : GoodIn wsX4_goOff (wsV RX4 223 RX4 yX4_give wsX4_give) := goodIn_app (goodIn_of _ (by decide +kernel)) ggX4_goOff_X4_give
theorem dX4_goOff_0 : decode cX4_goOff 0 = .ok (.iload_n 1, 1) := by decide +kernel
theorem dX4_goOff_1 : decode cX4_goOff 1 = .ok (.iconst (-1), 1) := by decide +kernel
theorem dX4_goOff_2 : decode cX4_goOff 2 = .ok (.if_icmp .ne 4, 3) := by decide +kernel
theorem dX4_goOff_5 : decode cX4_goOff 5 = .ok (.return_, 1) := by decide +kernel
theorem dX4_goOff_6 : decode cX4_goOff 6 = .ok (.aload_n 0, 1) := by decide +kernel
theorem dX4_goOff_7 : decode cX4_goOff 7 = .ok (.getfield 36, 3) := by decide +kernel
theorem dX4_goOff_10 : decode cX4_goOff 10 = .ok (.getfield 170, 3) := by decide +kernel
theorem dX4_goOff_13 : decode cX4_goOff 13 = .ok (.iload_n 1, 1) := by decide +kernel
theorem dX4_goOff_14 : decode cX4_goOff 14 = .ok (.iaload, 1) := by decide +kernel
theorem dX4_goOff_15 : decode cX4_goOff 15 = .ok (.istore_n 2, 1) := by decide +kernel
theorem dX4_goOff_16 : decode cX4_goOff 16 = .ok (.aload_n 0, 1) := by decide +kernel
theorem dX4_goOff_17 : decode cX4_goOff 17 = .ok (.getfield 36, 3) := by decide +kernel
theorem dX4_goOff_20 : decode cX4_goOff 20 = .ok (.getfield 172, 3) := by decide +kernel
theorem dX4_goOff_23 : decode cX4_goOff 23 = .ok (.iload_n 1, 1) := by decide +kernel
theorem dX4_goOff_24 : decode cX4_goOff 24 = .ok (.iaload, 1) := by decide +kernel
theorem dX4_goOff_25 : decode cX4_goOff 25 = .ok (.istore_n 3, 1) := by decide +kernel
theorem dX4_goOff_26 : decode cX4_goOff 26 = .ok (.aload_n 0, 1) := by decide +kernel
theorem dX4_goOff_27 : decode cX4_goOff 27 = .ok (.getfield 36, 3) := by decide +kernel
theorem dX4_goOff_30 : decode cX4_goOff 30 = .ok (.iload_n 1, 1) := by decide +kernel
theorem dX4_goOff_31 : decode cX4_goOff 31 = .ok (.iconst 0, 1) := by decide +kernel
theorem dX4_goOff_32 : decode cX4_goOff 32 = .ok (.invokevirtual 175, 3) := by decide +kernel
theorem dX4_goOff_35 : decode cX4_goOff 35 = .ok (.lstore 4, 2) := by decide +kernel
theorem dX4_goOff_37 : decode cX4_goOff 37 = .ok (.aload_n 0, 1) := by decide +kernel
theorem dX4_goOff_38 : decode cX4_goOff 38 = .ok (.dup, 1) := by decide +kernel
theorem dX4_goOff_39 : decode cX4_goOff 39 = .ok (.getfield 71, 3) := by decide +kernel
theorem dX4_goOff_42 : decode cX4_goOff 42 = .ok (.iconst 1, 1) := by decide +kernel
theorem dX4_goOff_43 : decode cX4_goOff 43 = .ok (.iadd, 1) := by decide +kernel
theorem dX4_goOff_44 : decode cX4_goOff 44 = .ok (.putfield 71, 3) := by decide +kernel
theorem dX4_goOff_47 : decode cX4_goOff 47 = .ok (.aload_n 0, 1) := by decide +kernel
theorem dX4_goOff_48 : decode cX4_goOff 48 = .ok (.getfield 18, 3) := by decide +kernel
theorem dX4_goOff_51 : decode cX4_goOff 51 = .ok (.iload_n 2, 1) := by decide +kernel
theorem dX4_goOff_52 : decode cX4_goOff 52 = .ok (.dup2, 1) := by decide +kernel
theorem dX4_goOff_53 : decode cX4_goOff 53 = .ok (.iaload, 1) := by decide +kernel
theorem dX4_goOff_54 : decode cX4_goOff 54 = .ok (.iconst 1, 1) := by decide +kernel
theorem dX4_goOff_55 : decode cX4_goOff 55 = .ok (.iadd, 1) := by decide +kernel
theorem dX4_goOff_56 : decode cX4_goOff 56 = .ok (.iastore, 1) := by decide +kernel
theorem dX4_goOff_57 : decode cX4_goOff 57 = .ok (.aload_n 0, 1) := by decide +kernel
theorem dX4_goOff_58 : decode cX4_goOff 58 = .ok (.getfield 47, 3) := by decide +kernel
theorem dX4_goOff_61 : decode cX4_goOff 61 = .ok (.getfield 179, 3) := by decide +kernel
theorem dX4_goOff_64 : decode cX4_goOff 64 = .ok (.iload_n 2, 1) := by decide +kernel
theorem dX4_goOff_65 : decode cX4_goOff 65 = .ok (.iaload, 1) := by decide +kernel
theorem dX4_goOff_66 : decode cX4_goOff 66 = .ok (.tableswitch 182 10 21 #[62, 82, 109, 109, 120, 182, 130, 140, 151, 161, 182, 171], 62) := by decide +kernel
theorem dX4_goOff_128 : decode cX4_goOff 128 = .ok (.aload_n 0, 1) := by decide +kernel
theorem dX4_goOff_129 : decode cX4_goOff 129 = .ok (.iload_n 2, 1) := by decide +kernel
theorem dX4_goOff_130 : decode cX4_goOff 130 = .ok (.iload_n 3, 1) := by decide +kernel
theorem dX4_goOff_131 : decode cX4_goOff 131 = .ok (.lload 4, 2) := by decide +kernel
theorem dX4_goOff_133 : decode cX4_goOff 133 = .ok (.aload_n 0, 1) := by decide +kernel
theorem dX4_goOff_134 : decode cX4_goOff 134 = .ok (.getfield 36, 3) := by decide +kernel
theorem dX4_goOff_137 : decode cX4_goOff 137 = .ok (.iload_n 1, 1) := by decide +kernel
theorem dX4_goOff_138 : decode cX4_goOff 138 = .ok (.iconst 1, 1) := by decide +kernel
theorem dX4_goOff_139 : decode cX4_goOff 139 = .ok (.invokevirtual 175, 3) := by decide +kernel
theorem dX4_goOff_142 : decode cX4_goOff 142 = .ok (.invokevirtual 182, 3) := by decide +kernel
theorem dX4_goOff_145 : decode cX4_goOff 145 = .ok (.goto 118, 3) := by decide +kernel
theorem dX4_goOff_148 : decode cX4_goOff 148 = .ok (.aload_n 0, 1) := by decide +kernel
theorem dX4_goOff_149 : decode cX4_goOff 149 = .ok (.iload_n 2, 1) := by decide +kernel
theorem dX4_goOff_150 : decode cX4_goOff 150 = .ok (.aload_n 0, 1) := by decide +kernel
theorem dX4_goOff_151 : decode cX4_goOff 151 = .ok (.getfield 29, 3) := by decide +kernel
theorem dX4_goOff_154 : decode cX4_goOff 154 = .ok (.iload_n 3, 1) := by decide +kernel
theorem dX4_goOff_155 : decode cX4_goOff 155 = .ok (.aload_n 0, 1) := by decide +kernel
theorem dX4_goOff_156 : decode cX4_goOff 156 = .ok (.getfield 47, 3) := by decide +kernel
theorem dX4_goOff_159 : decode cX4_goOff 159 = .ok (.getfield 186, 3) := by decide +kernel
theorem dX4_goOff_162 : decode cX4_goOff 162 = .ok (.iload_n 2, 1) := by decide +kernel
theorem dX4_goOff_163 : decode cX4_goOff 163 = .ok (.iaload, 1) := by decide +kernel
theorem dX4_goOff_164 : decode cX4_goOff 164 = .ok (.invokevirtual 189, 3) := by decide +kernel
theorem dX4_goOff_167 : decode cX4_goOff 167 = .ok (.lload 4, 2) := by decide +kernel
theorem dX4_goOff_169 : decode cX4_goOff 169 = .ok (.invokevirtual 192, 3) := by decide +kernel
theorem dX4_goOff_172 : decode cX4_goOff 172 = .ok (.goto 91, 3) := by decide +kernel
theorem dX4_goOff_175 : decode cX4_goOff 175 = .ok (.aload_n 0, 1) := by decide +kernel
theorem dX4_goOff_176 : decode cX4_goOff 176 = .ok (.iload_n 2, 1) := by decide +kernel
theorem dX4_goOff_177 : decode cX4_goOff 177 = .ok (.iload_n 3, 1) := by decide +kernel
theorem dX4_goOff_178 : decode cX4_goOff 178 = .ok (.lload 4, 2) := by decide +kernel
theorem dX4_goOff_180 : decode cX4_goOff 180 = .ok (.invokevirtual 196, 3) := by decide +kernel
theorem dX4_goOff_183 : decode cX4_goOff 183 = .ok (.goto 80, 3) := by decide +kernel
theorem dX4_goOff_186 : decode cX4_goOff 186 = .ok (.aload_n 0, 1) := by decide +kernel
theorem dX4_goOff_187 : decode cX4_goOff 187 = .ok (.iload_n 1, 1) := by decide +kernel
theorem dX4_goOff_188 : decode cX4_goOff 188 = .ok (.iload_n 2, 1) := by decide +kernel
theorem dX4_goOff_189 : decode cX4_goOff 189 = .ok (.iload_n 3, 1) := by decide +kernel
theorem dX4_goOff_190 : decode cX4_goOff 190 = .ok (.invokevirtual 199, 3) := by decide +kernel
theorem dX4_goOff_193 : decode cX4_goOff 193 = .ok (.goto 70, 3) := by decide +kernel
theorem dX4_goOff_196 : decode cX4_goOff 196 = .ok (.aload_n 0, 1) := by decide +kernel
theorem dX4_goOff_197 : decode cX4_goOff 197 = .ok (.iload_n 3, 1) := by decide +kernel
theorem dX4_goOff_198 : decode cX4_goOff 198 = .ok (.lload 4, 2) := by decide +kernel
theorem dX4_goOff_200 : decode cX4_goOff 200 = .ok (.invokevirtual 203, 3) := by decide +kernel
theorem dX4_goOff_203 : decode cX4_goOff 203 = .ok (.goto 60, 3) := by decide +kernel
theorem dX4_goOff_206 : decode cX4_goOff 206 = .ok (.aload_n 0, 1) := by decide +kernel
theorem dX4_goOff_207 : decode cX4_goOff 207 = .ok (.iload_n 2, 1) := by decide +kernel
theorem dX4_goOff_208 : decode cX4_goOff 208 = .ok (.iload_n 3, 1) := by decide +kernel
theorem dX4_goOff_209 : decode cX4_goOff 209 = .ok (.lload 4, 2) := by decide +kernel
theorem dX4_goOff_211 : decode cX4_goOff 211 = .ok (.invokevirtual 207, 3) := by decide +kernel
theorem dX4_goOff_214 : decode cX4_goOff 214 = .ok (.goto 49, 3) := by decide +kernel
theorem dX4_goOff_217 : decode cX4_goOff 217 = .ok (.aload_n 0, 1) := by decide +kernel
theorem dX4_goOff_218 : decode cX4_goOff 218 = .ok (.iload_n 1, 1) := by decide +kernel
theorem dX4_goOff_219 : decode cX4_goOff 219 = .ok (.iload_n 2, 1) := by decide +kernel
theorem dX4_goOff_220 : decode cX4_goOff 220 = .ok (.iload_n 3, 1) := by decide +kernel
theorem dX4_goOff_221 : decode cX4_goOff 221 = .ok (.invokevirtual 210, 3) := by decide +kernel
theorem dX4_goOff_224 : decode cX4_goOff 224 = .ok (.goto 39, 3) := by decide +kernel
theorem dX4_goOff_227 : decode cX4_goOff 227 = .ok (.aload_n 0, 1) := by decide +kernel
theorem dX4_goOff_228 : decode cX4_goOff 228 = .ok (.iload_n 1, 1) := by decide +kernel
theorem dX4_goOff_229 : decode cX4_goOff 229 = .ok (.iload_n 2, 1) := by decide +kernel
theorem dX4_goOff_230 : decode cX4_goOff 230 = .ok (.iload_n 3, 1) := by decide +kernel
theorem dX4_goOff_231 : decode cX4_goOff 231 = .ok (.invokevirtual 213, 3) := by decide +kernel
theorem dX4_goOff_234 : decode cX4_goOff 234 = .ok (.goto 29, 3) := by decide +kernel
theorem dX4_goOff_237 : decode cX4_goOff 237 = .ok (.aload_n 0, 1) := by decide +kernel
theorem dX4_goOff_238 : decode cX4_goOff 238 = .ok (.iload_n 2, 1) := by decide +kernel
theorem dX4_goOff_239 : decode cX4_goOff 239 = .ok (.iload_n 3, 1) := by decide +kernel
theorem dX4_goOff_240 : decode cX4_goOff 240 = .ok (.lload 4, 2) := by decide +kernel
theorem dX4_goOff_242 : decode cX4_goOff 242 = .ok (.invokevirtual 216, 3) := by decide +kernel
theorem dX4_goOff_245 : decode cX4_goOff 245 = .ok (.goto 18, 3) := by decide +kernel
theorem dX4_goOff_248 : decode cX4_goOff 248 = .ok (.aload_n 0, 1) := by decide +kernel
theorem dX4_goOff_249 : decode cX4_goOff 249 = .ok (.iload_n 2, 1) := by decide +kernel
theorem dX4_goOff_250 : decode cX4_goOff 250 = .ok (.iconst 0, 1) := by decide +kernel
theorem dX4_goOff_251 : decode cX4_goOff 251 = .ok (.iload_n 3, 1) := by decide +kernel
theorem dX4_goOff_252 : decode cX4_goOff 252 = .ok (.aload_n 0, 1) := by decide +kernel
theorem dX4_goOff_253 : decode cX4_goOff 253 = .ok (.iload_n 1, 1) := by decide +kernel
theorem dX4_goOff_254 : decode cX4_goOff 254 = .ok (.iload_n 2, 1) := by decide +kernel
theorem dX4_goOff_255 : decode cX4_goOff 255 = .ok (.lload 4, 2) := by decide +kernel
theorem dX4_goOff_257 : decode cX4_goOff 257 = .ok (.invokevirtual 219, 3) := by decide +kernel
theorem dX4_goOff_260 : decode cX4_goOff 260 = .ok (.invokevirtual 223, 3) := by decide +kernel
theorem dX4_goOff_263 : decode cX4_goOff 263 = .ok (.return_, 1) := by decide +kernel
set_option maxRecDepth 20000 in
theorem ggX4_plainResult_X8_ofNumber : GoodIn wsX4_plainResult wsX8_ofNumber := goodIn_r _ [9, 10, 11] (by decide +kernel) (by decide +kernel)
set_option maxRecDepth 20000 in
theorem gX4_plainResult_X8_ofNumber : GoodIn wsX4_plainResult (va_wsS RX4 151 yX8_ofNumber wsX8_ofNumber) := goodIn_app (goodIn_of _ (by decide +kernel)) ggX4_plainResult_X8_ofNumber
set_option maxRecDepth 20000 in
theorem ggX4_plainResult_X7_not : GoodIn wsX4_plainResult wsX7_not := goodIn_r _ [15, 16, 17, 8, 18, 19, 20, 21, 22, 23, 24, 25, 11, 26, 27, 28, 29, 30, 31, 32, 7, 9, 10] (by decide +kernel) (by decide +kernel)
set_option maxRecDepth 20000 in
theorem gX4_plainResult_X7_not : GoodIn wsX4_plainResult (va_wsS RX4 226 yX7_not wsX7_not) := goodIn_app (goodIn_of _ (by decide +kernel)) ggX4_plainResult_X7_not
set_option maxRecDepth 20000 in
theorem ggX4_plainResult_X8_refuse : GoodIn wsX4_plainResult wsX8_refuse := goodIn_r _ [18, 19, 20, 8, 21, 22, 23, 24, 25, 11] (by decide +kernel) (by decide +kernel)
set_option maxRecDepth 20000 in
theorem gX4_plainResult_X8_refuse : GoodIn wsX4_plainResult (va_wsS RX4 232 yX8_refuse wsX8_refuse) := goodIn_app (goodIn_of _ (by decide +kernel)) ggX4_plainResult_X8_refuse
set_option maxRecDepth 20000 in
theorem ggX4_plainResult_X8_contentOf : GoodIn wsX4_plainResult wsX8_contentOf := goodIn_r _ [28] (by decide +kernel) (by decide +kernel)
set_option maxRecDepth 20000 in
theorem gX4_plainResult_X8_contentOf : GoodIn wsX4_plainResult (va_wsS RX4 111 yX8_contentOf wsX8_contentOf) := goodIn_app (goodIn_of _ (by decide +kernel)) ggX4_plainResult_X8_contentOf
set_option maxRecDepth 20000 in
theorem ggX4_plainResult_X6_sizeOf : GoodIn wsX4_plainResult wsX6_sizeOf := goodIn_r _ [39, 40, 41, 86, 87, 88, 89, 90, 91, 92, 93, 94, 95] (by decide +kernel) (by decide +kernel)
set_option maxRecDepth 20000 in
theorem gX4_plainResult_X6_sizeOf : GoodIn wsX4_plainResult (wsV RX4 114 RX6 yX6_sizeOf wsX6_sizeOf) := goodIn_app (goodIn_of _ (by decide +kernel)) ggX4_plainResult_X6_sizeOf
set_option maxRecDepth 20000 in
theorem ggX4_plainResult_X1_cameTo : GoodIn wsX4_plainResult wsX1_cameTo := goodIn_r _ [46, 47, 96, 97, 98, 99, 100, 101, 102, 103] (by decide +kernel) (by decide +kernel)
set_option maxRecDepth 20000 in
theorem gX4_plainResult_X1_cameTo : GoodIn wsX4_plainResult (wsV RX4 175 RX1 yX1_cameTo wsX1_cameTo) := goodIn_app (goodIn_of _ (by decide +kernel)) ggX4_plainResult_X1_cameTo
set_option maxRecDepth 20000 in
theorem ggX4_plainResult_X7_ofTwo : GoodIn wsX4_plainResult wsX7_ofTwo := goodIn_r _ [50, 51, 20, 8, 21, 52, 53, 54, 19, 22, 23, 24, 25, 11, 26, 27, 28, 55, 7, 9, 10, 56, 29, 30, 31, 32] (by decide +kernel) (by decide +kernel)
set_option maxRecDepth 20000 in
theorem gX4_plainResult_X7_ofTwo : GoodIn wsX4_plainResult (va_wsS RX4 236 yX7_ofTwo wsX7_ofTwo) := goodIn_app (goodIn_of _ (by decide +kernel)) ggX4_plainResult_X7_ofTwo
theorem dX4_plainResult_0 : decode cX4_plainResult 0 = .ok (.aload_n 0, 1) := by decide +kernel
theorem dX4_plainResult_1 : decode cX4_plainResult 1 = .ok (.getfield 47, 3) := by decide +kernel
theorem dX4_plainResult_4 : decode cX4_plainResult 4 = .ok (.getfield 179, 3) := by decide +kernel
theorem dX4_plainResult_7 : decode cX4_plainResult 7 = .ok (.iload_n 2, 1) := by decide +kernel
theorem dX4_plainResult_8 : decode cX4_plainResult 8 = .ok (.iaload, 1) := by decide +kernel
theorem dX4_plainResult_9 : decode cX4_plainResult 9 = .ok (.istore 5, 2) := by decide +kernel
theorem dX4_plainResult_11 : decode cX4_plainResult 11 = .ok (.iload 5, 2) := by decide +kernel
theorem dX4_plainResult_13 : decode cX4_plainResult 13 = .ok (.lookupswitch 111 #[(0, 51), (1, 53), (9, 66), (15, 51), (20, 72)], 51) := by decide +kernel
theorem dX4_plainResult_64 : decode cX4_plainResult 64 = .ok (.lload_n 3, 1) := by decide +kernel
theorem dX4_plainResult_65 : decode cX4_plainResult 65 = .ok (.lreturn, 1) := by decide +kernel
theorem dX4_plainResult_66 : decode cX4_plainResult 66 = .ok (.aload_n 0, 1) := by decide +kernel
theorem dX4_plainResult_67 : decode cX4_plainResult 67 = .ok (.getfield 47, 3) := by decide +kernel
theorem dX4_plainResult_70 : decode cX4_plainResult 70 = .ok (.getfield 186, 3) := by decide +kernel
theorem dX4_plainResult_73 : decode cX4_plainResult 73 = .ok (.iload_n 2, 1) := by decide +kernel
theorem dX4_plainResult_74 : decode cX4_plainResult 74 = .ok (.iaload, 1) := by decide +kernel
theorem dX4_plainResult_75 : decode cX4_plainResult 75 = .ok (.invokestatic 151, 3) := by decide +kernel
theorem dX4_plainResult_78 : decode cX4_plainResult 78 = .ok (.lreturn, 1) := by decide +kernel
theorem dX4_plainResult_79 : decode cX4_plainResult 79 = .ok (.iload_n 2, 1) := by decide +kernel
theorem dX4_plainResult_80 : decode cX4_plainResult 80 = .ok (.lload_n 3, 1) := by decide +kernel
theorem dX4_plainResult_81 : decode cX4_plainResult 81 = .ok (.invokestatic 226, 3) := by decide +kernel
theorem dX4_plainResult_84 : decode cX4_plainResult 84 = .ok (.lreturn, 1) := by decide +kernel
theorem dX4_plainResult_85 : decode cX4_plainResult 85 = .ok (.iload_n 2, 1) := by decide +kernel
theorem dX4_plainResult_86 : decode cX4_plainResult 86 = .ok (.lload_n 3, 1) := by decide +kernel
theorem dX4_plainResult_87 : decode cX4_plainResult 87 = .ok (.iconst 2, 1) := by decide +kernel
theorem dX4_plainResult_88 : decode cX4_plainResult 88 = .ok (.invokestatic 232, 3) := by decide +kernel
theorem dX4_plainResult_91 : decode cX4_plainResult 91 = .ok (.lstore 6, 2) := by decide +kernel
theorem dX4_plainResult_93 : decode cX4_plainResult 93 = .ok (.lload_n 3, 1) := by decide +kernel
theorem dX4_plainResult_94 : decode cX4_plainResult 94 = .ok (.invokestatic 111, 3) := by decide +kernel
theorem dX4_plainResult_97 : decode cX4_plainResult 97 = .ok (.istore 8, 2) := by decide +kernel
theorem dX4_plainResult_99 : decode cX4_plainResult 99 = .ok (.lload 6, 2) := by decide +kernel
theorem dX4_plainResult_101 : decode cX4_plainResult 101 = .ok (.lconst 0, 1) := by decide +kernel
theorem dX4_plainResult_102 : decode cX4_plainResult 102 = .ok (.lcmp, 1) := by decide +kernel
theorem dX4_plainResult_103 : decode cX4_plainResult 103 = .ok (.ifCond .eq 8, 3) := by decide +kernel
theorem dX4_plainResult_106 : decode cX4_plainResult 106 = .ok (.lload 6, 2) := by decide +kernel
theorem dX4_plainResult_108 : decode cX4_plainResult 108 = .ok (.goto 15, 3) := by decide +kernel
theorem dX4_plainResult_111 : decode cX4_plainResult 111 = .ok (.aload_n 0, 1) := by decide +kernel
theorem dX4_plainResult_112 : decode cX4_plainResult 112 = .ok (.getfield 12, 3) := by decide +kernel
theorem dX4_plainResult_115 : decode cX4_plainResult 115 = .ok (.iload 8, 2) := by decide +kernel
theorem dX4_plainResult_117 : decode cX4_plainResult 117 = .ok (.invokevirtual 114, 3) := by decide +kernel
theorem dX4_plainResult_120 : decode cX4_plainResult 120 = .ok (.invokestatic 151, 3) := by decide +kernel
theorem dX4_plainResult_123 : decode cX4_plainResult 123 = .ok (.lreturn, 1) := by decide +kernel
theorem dX4_plainResult_124 : decode cX4_plainResult 124 = .ok (.iload 5, 2) := by decide +kernel
theorem dX4_plainResult_126 : decode cX4_plainResult 126 = .ok (.iload_n 2, 1) := by decide +kernel
theorem dX4_plainResult_127 : decode cX4_plainResult 127 = .ok (.lload_n 3, 1) := by decide +kernel
theorem dX4_plainResult_128 : decode cX4_plainResult 128 = .ok (.aload_n 0, 1) := by decide +kernel
theorem dX4_plainResult_129 : decode cX4_plainResult 129 = .ok (.getfield 36, 3) := by decide +kernel
theorem dX4_plainResult_132 : decode cX4_plainResult 132 = .ok (.iload_n 1, 1) := by decide +kernel
theorem dX4_plainResult_133 : decode cX4_plainResult 133 = .ok (.iconst 1, 1) := by decide +kernel
theorem dX4_plainResult_134 : decode cX4_plainResult 134 = .ok (.invokevirtual 175, 3) := by decide +kernel
theorem dX4_plainResult_137 : decode cX4_plainResult 137 = .ok (.invokestatic 236, 3) := by decide +kernel
theorem dX4_plainResult_140 : decode cX4_plainResult 140 = .ok (.lreturn, 1) := by decide +kernel
set_option maxRecDepth 20000 in
theorem ggX4_goSwitch_X8_sortOf : GoodIn wsX4_goSwitch wsX8_sortOf := goodIn_r _ [5] (by decide +kernel) (by decide +kernel)
set_option maxRecDepth 20000 in
theorem gX4_goSwitch_X8_sortOf : GoodIn wsX4_goSwitch (va_wsS RX4 105 yX8_sortOf wsX8_sortOf) := goodIn_app (goodIn_of _ (by decide +kernel)) ggX4_goSwitch_X8_sortOf
set_option maxRecDepth 20000 in
theorem ggX4_goSwitch_X8_contentOf : GoodIn wsX4_goSwitch wsX8_contentOf := goodIn_r _ [8] (by decide +kernel) (by decide +kernel)
set_option maxRecDepth 20000 in
theorem gX4_goSwitch_X8_contentOf : GoodIn wsX4_goSwitch (va_wsS RX4 111 yX8_contentOf wsX8_contentOf) := goodIn_app (goodIn_of _ (by decide +kernel)) ggX4_goSwitch_X8_contentOf
set_option maxRecDepth 20000 in
theorem ggX4_goSwitch_X4_give : GoodIn wsX4_goSwitch wsX4_give := goodIn_r _ [13, 14, 15, 16, 17, 18, 19, 20, 21, 22, 23, 24, 25, 26, 27, 12, 28, 29, 30, 31, 32, 33, 34, 35, 36, 37, 38, 39, 40, 41, 42, 43, 44, 45, 46, 47, 48, 49, 50, 51, 52, 53, 54, 55, 56, 57, 58, 59, 60, 61, 62, 63, 64, 65, 66, 67, 68, 69, 70, 71, 72, 73, 74, 75, 76, 77, 78, 79, 80, 81, 82, 83, 84, 85, 86, 87, 88, 89, 90, 91, 92, 93, 94, 95, 96, 97, 98, 99, 100, 101, 102, 103, 104, 105, 106, 107, 108] (by decide +kernel) (by decide +kernel)
set_option maxRecDepth 20000 in
theorem gX4_goSwitch_X4_give : GoodIn wsX4_goSwitch (wsV RX4 223 RX4 yX4_give wsX4_give) := goodIn_app (goodIn_of _ (by decide +kernel)) ggX4_goSwitch_X4_give
theorem dX4_goSwitch_0 : decode cX4_goSwitch 0 = .ok (.lload 5, 2) := by decide +kernel
theorem dX4_goSwitch_2 : decode cX4_goSwitch 2 = .ok (.invokestatic 105, 3) := by decide +kernel
theorem dX4_goSwitch_5 : decode cX4_goSwitch 5 = .ok (.iconst 1, 1) := by decide +kernel
theorem dX4_goSwitch_6 : decode cX4_goSwitch 6 = .ok (.if_icmp .eq 16, 3) := by decide +kernel
