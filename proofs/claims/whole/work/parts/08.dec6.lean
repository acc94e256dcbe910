theorem dX10_told_10 : decode cX10_told 10 = .ok (.iconst 0, 1) := by decide +kernel
theorem dX10_told_11 : decode cX10_told 11 = .ok (.istore_n 3, 1) := by decide +kernel
theorem dX10_told_12 : decode cX10_told 12 = .ok (.iload_n 2, 1) := by decide +kernel
theorem dX10_told_13 : decode cX10_told 13 = .ok (.tableswitch 151 0 5 #[39, 46, 53, 60, 60, 112], 39) := by decide +kernel
theorem dX10_told_52 : decode cX10_told 52 = .ok (.aload_n 0, 1) := by decide +kernel
theorem dX10_told_53 : decode cX10_told 53 = .ok (.getfield 7, 3) := by decide +kernel
theorem dX10_told_56 : decode cX10_told 56 = .ok (.iload_n 1, 1) := by decide +kernel
theorem dX10_told_57 : decode cX10_told 57 = .ok (.iaload, 1) := by decide +kernel
theorem dX10_told_58 : decode cX10_told 58 = .ok (.ireturn, 1) := by decide +kernel
theorem dX10_told_59 : decode cX10_told 59 = .ok (.aload_n 0, 1) := by decide +kernel
theorem dX10_told_60 : decode cX10_told 60 = .ok (.getfield 13, 3) := by decide +kernel
theorem dX10_told_63 : decode cX10_told 63 = .ok (.iload_n 1, 1) := by decide +kernel
theorem dX10_told_64 : decode cX10_told 64 = .ok (.iaload, 1) := by decide +kernel
theorem dX10_told_65 : decode cX10_told 65 = .ok (.ireturn, 1) := by decide +kernel
theorem dX10_told_66 : decode cX10_told 66 = .ok (.aload_n 0, 1) := by decide +kernel
theorem dX10_told_67 : decode cX10_told 67 = .ok (.getfield 16, 3) := by decide +kernel
theorem dX10_told_70 : decode cX10_told 70 = .ok (.iload_n 1, 1) := by decide +kernel
theorem dX10_told_71 : decode cX10_told 71 = .ok (.iaload, 1) := by decide +kernel
theorem dX10_told_72 : decode cX10_told 72 = .ok (.ireturn, 1) := by decide +kernel
theorem dX10_told_73 : decode cX10_told 73 = .ok (.iconst 0, 1) := by decide +kernel
theorem dX10_told_74 : decode cX10_told 74 = .ok (.istore 4, 2) := by decide +kernel
theorem dX10_told_76 : decode cX10_told 76 = .ok (.iload 4, 2) := by decide +kernel
theorem dX10_told_78 : decode cX10_told 78 = .ok (.aload_n 0, 1) := by decide +kernel
theorem dX10_told_79 : decode cX10_told 79 = .ok (.getfield 143, 3) := by decide +kernel
theorem dX10_told_82 : decode cX10_told 82 = .ok (.if_icmp .ge 41, 3) := by decide +kernel
theorem dX10_told_85 : decode cX10_told 85 = .ok (.iload_n 3, 1) := by decide +kernel
theorem dX10_told_86 : decode cX10_told 86 = .ok (.aload_n 0, 1) := by decide +kernel
theorem dX10_told_87 : decode cX10_told 87 = .ok (.getfield 19, 3) := by decide +kernel
theorem dX10_told_90 : decode cX10_told 90 = .ok (.iload 4, 2) := by decide +kernel
theorem dX10_told_92 : decode cX10_told 92 = .ok (.iaload, 1) := by decide +kernel
theorem dX10_told_93 : decode cX10_told 93 = .ok (.iload_n 1, 1) := by decide +kernel
theorem dX10_told_94 : decode cX10_told 94 = .ok (.if_icmp .ne 20, 3) := by decide +kernel
theorem dX10_told_97 : decode cX10_told 97 = .ok (.aload_n 0, 1) := by decide +kernel
theorem dX10_told_98 : decode cX10_told 98 = .ok (.getfield 22, 3) := by decide +kernel
theorem dX10_told_101 : decode cX10_told 101 = .ok (.iload 4, 2) := by decide +kernel
theorem dX10_told_103 : decode cX10_told 103 = .ok (.iaload, 1) := by decide +kernel
theorem dX10_told_104 : decode cX10_told 104 = .ok (.iload_n 2, 1) := by decide +kernel
theorem dX10_told_105 : decode cX10_told 105 = .ok (.iconst 3, 1) := by decide +kernel
theorem dX10_told_106 : decode cX10_told 106 = .ok (.isub, 1) := by decide +kernel
theorem dX10_told_107 : decode cX10_told 107 = .ok (.if_icmp .ne 7, 3) := by decide +kernel
theorem dX10_told_110 : decode cX10_told 110 = .ok (.iconst 1, 1) := by decide +kernel
theorem dX10_told_111 : decode cX10_told 111 = .ok (.goto 4, 3) := by decide +kernel
theorem dX10_told_114 : decode cX10_told 114 = .ok (.iconst 0, 1) := by decide +kernel
theorem dX10_told_115 : decode cX10_told 115 = .ok (.iadd, 1) := by decide +kernel
theorem dX10_told_116 : decode cX10_told 116 = .ok (.istore_n 3, 1) := by decide +kernel
theorem dX10_told_117 : decode cX10_told 117 = .ok (.iinc 4 1, 3) := by decide +kernel
theorem dX10_told_120 : decode cX10_told 120 = .ok (.goto (-44), 3) := by decide +kernel
theorem dX10_told_123 : decode cX10_told 123 = .ok (.iload_n 3, 1) := by decide +kernel
theorem dX10_told_124 : decode cX10_told 124 = .ok (.ireturn, 1) := by decide +kernel
theorem dX10_told_125 : decode cX10_told 125 = .ok (.iconst 0, 1) := by decide +kernel
theorem dX10_told_126 : decode cX10_told 126 = .ok (.istore 4, 2) := by decide +kernel
theorem dX10_told_128 : decode cX10_told 128 = .ok (.iload 4, 2) := by decide +kernel
theorem dX10_told_130 : decode cX10_told 130 = .ok (.aload_n 0, 1) := by decide +kernel
theorem dX10_told_131 : decode cX10_told 131 = .ok (.getfield 146, 3) := by decide +kernel
theorem dX10_told_134 : decode cX10_told 134 = .ok (.if_icmp .ge 28, 3) := by decide +kernel
theorem dX10_told_137 : decode cX10_told 137 = .ok (.iload_n 3, 1) := by decide +kernel
theorem dX10_told_138 : decode cX10_told 138 = .ok (.aload_n 0, 1) := by decide +kernel
theorem dX10_told_139 : decode cX10_told 139 = .ok (.getfield 31, 3) := by decide +kernel
theorem dX10_told_142 : decode cX10_told 142 = .ok (.iload 4, 2) := by decide +kernel
theorem dX10_told_144 : decode cX10_told 144 = .ok (.iaload, 1) := by decide +kernel
theorem dX10_told_145 : decode cX10_told 145 = .ok (.iload_n 1, 1) := by decide +kernel
theorem dX10_told_146 : decode cX10_told 146 = .ok (.if_icmp .ne 7, 3) := by decide +kernel
theorem dX10_told_149 : decode cX10_told 149 = .ok (.iconst 1, 1) := by decide +kernel
theorem dX10_told_150 : decode cX10_told 150 = .ok (.goto 4, 3) := by decide +kernel
theorem dX10_told_153 : decode cX10_told 153 = .ok (.iconst 0, 1) := by decide +kernel
theorem dX10_told_154 : decode cX10_told 154 = .ok (.iadd, 1) := by decide +kernel
theorem dX10_told_155 : decode cX10_told 155 = .ok (.istore_n 3, 1) := by decide +kernel
theorem dX10_told_156 : decode cX10_told 156 = .ok (.iinc 4 1, 3) := by decide +kernel
theorem dX10_told_159 : decode cX10_told 159 = .ok (.goto (-31), 3) := by decide +kernel
theorem dX10_told_162 : decode cX10_told 162 = .ok (.iload_n 3, 1) := by decide +kernel
theorem dX10_told_163 : decode cX10_told 163 = .ok (.ireturn, 1) := by decide +kernel
theorem dX10_told_164 : decode cX10_told 164 = .ok (.iconst (-1), 1) := by decide +kernel
theorem dX10_told_165 : decode cX10_told 165 = .ok (.ireturn, 1) := by decide +kernel
theorem dX10_notes_0 : decode cX10_notes 0 = .ok (.aload_n 1, 1) := by decide +kernel
theorem dX10_notes_1 : decode cX10_notes 1 = .ok (.iconst 0, 1) := by decide +kernel
theorem dX10_notes_2 : decode cX10_notes 2 = .ok (.aload_n 0, 1) := by decide +kernel
theorem dX10_notes_3 : decode cX10_notes 3 = .ok (.getfield 153, 3) := by decide +kernel
theorem dX10_notes_6 : decode cX10_notes 6 = .ok (.iastore, 1) := by decide +kernel
theorem dX10_notes_7 : decode cX10_notes 7 = .ok (.aload_n 1, 1) := by decide +kernel
theorem dX10_notes_8 : decode cX10_notes 8 = .ok (.iconst 1, 1) := by decide +kernel
theorem dX10_notes_9 : decode cX10_notes 9 = .ok (.aload_n 0, 1) := by decide +kernel
theorem dX10_notes_10 : decode cX10_notes 10 = .ok (.getfield 245, 3) := by decide +kernel
theorem dX10_notes_13 : decode cX10_notes 13 = .ok (.iastore, 1) := by decide +kernel
theorem dX10_notes_14 : decode cX10_notes 14 = .ok (.aload_n 1, 1) := by decide +kernel
theorem dX10_notes_15 : decode cX10_notes 15 = .ok (.iconst 2, 1) := by decide +kernel
theorem dX10_notes_16 : decode cX10_notes 16 = .ok (.aload_n 0, 1) := by decide +kernel
theorem dX10_notes_17 : decode cX10_notes 17 = .ok (.invokevirtual 265, 3) := by decide +kernel
theorem dX10_notes_20 : decode cX10_notes 20 = .ok (.iastore, 1) := by decide +kernel
theorem dX10_notes_21 : decode cX10_notes 21 = .ok (.aload_n 1, 1) := by decide +kernel
theorem dX10_notes_22 : decode cX10_notes 22 = .ok (.iconst 3, 1) := by decide +kernel
theorem dX10_notes_23 : decode cX10_notes 23 = .ok (.aload_n 0, 1) := by decide +kernel
theorem dX10_notes_24 : decode cX10_notes 24 = .ok (.invokevirtual 269, 3) := by decide +kernel
theorem dX10_notes_27 : decode cX10_notes 27 = .ok (.iastore, 1) := by decide +kernel
theorem dX10_notes_28 : decode cX10_notes 28 = .ok (.aload_n 1, 1) := by decide +kernel
theorem dX10_notes_29 : decode cX10_notes 29 = .ok (.iconst 4, 1) := by decide +kernel
theorem dX10_notes_30 : decode cX10_notes 30 = .ok (.aload_n 0, 1) := by decide +kernel
theorem dX10_notes_31 : decode cX10_notes 31 = .ok (.getfield 218, 3) := by decide +kernel
theorem dX10_notes_34 : decode cX10_notes 34 = .ok (.iastore, 1) := by decide +kernel
theorem dX10_notes_35 : decode cX10_notes 35 = .ok (.aload_n 1, 1) := by decide +kernel
theorem dX10_notes_36 : decode cX10_notes 36 = .ok (.iconst 5, 1) := by decide +kernel
theorem dX10_notes_37 : decode cX10_notes 37 = .ok (.aload_n 0, 1) := by decide +kernel
theorem dX10_notes_38 : decode cX10_notes 38 = .ok (.getfield 231, 3) := by decide +kernel
theorem dX10_notes_41 : decode cX10_notes 41 = .ok (.iastore, 1) := by decide +kernel
theorem dX10_notes_42 : decode cX10_notes 42 = .ok (.iconst 0, 1) := by decide +kernel
theorem dX10_notes_43 : decode cX10_notes 43 = .ok (.istore_n 2, 1) := by decide +kernel
theorem dX10_notes_44 : decode cX10_notes 44 = .ok (.iload_n 2, 1) := by decide +kernel
theorem dX10_notes_45 : decode cX10_notes 45 = .ok (.bipush 10, 2) := by decide +kernel
theorem dX10_notes_47 : decode cX10_notes 47 = .ok (.if_icmp .ge 38, 3) := by decide +kernel
theorem dX10_notes_50 : decode cX10_notes 50 = .ok (.iconst 0, 1) := by decide +kernel
theorem dX10_notes_51 : decode cX10_notes 51 = .ok (.istore_n 3, 1) := by decide +kernel
theorem dX10_notes_52 : decode cX10_notes 52 = .ok (.iload_n 3, 1) := by decide +kernel
theorem dX10_notes_53 : decode cX10_notes 53 = .ok (.iconst 3, 1) := by decide +kernel
theorem dX10_notes_54 : decode cX10_notes 54 = .ok (.if_icmp .ge 25, 3) := by decide +kernel
theorem dX10_notes_57 : decode cX10_notes 57 = .ok (.aload_n 1, 1) := by decide +kernel
theorem dX10_notes_58 : decode cX10_notes 58 = .ok (.bipush 6, 2) := by decide +kernel
theorem dX10_notes_60 : decode cX10_notes 60 = .ok (.iconst 3, 1) := by decide +kernel
theorem dX10_notes_61 : decode cX10_notes 61 = .ok (.iload_n 2, 1) := by decide +kernel
theorem dX10_notes_62 : decode cX10_notes 62 = .ok (.imul, 1) := by decide +kernel
theorem dX10_notes_63 : decode cX10_notes 63 = .ok (.iadd, 1) := by decide +kernel
theorem dX10_notes_64 : decode cX10_notes 64 = .ok (.iload_n 3, 1) := by decide +kernel
theorem dX10_notes_65 : decode cX10_notes 65 = .ok (.iadd, 1) := by decide +kernel
theorem dX10_notes_66 : decode cX10_notes 66 = .ok (.aload_n 0, 1) := by decide +kernel
theorem dX10_notes_67 : decode cX10_notes 67 = .ok (.iload_n 2, 1) := by decide +kernel
theorem dX10_notes_68 : decode cX10_notes 68 = .ok (.iload_n 3, 1) := by decide +kernel
theorem dX10_notes_69 : decode cX10_notes 69 = .ok (.invokevirtual 275, 3) := by decide +kernel
theorem dX10_notes_72 : decode cX10_notes 72 = .ok (.iastore, 1) := by decide +kernel
theorem dX10_notes_73 : decode cX10_notes 73 = .ok (.iinc 3 1, 3) := by decide +kernel
theorem dX10_notes_76 : decode cX10_notes 76 = .ok (.goto (-24), 3) := by decide +kernel
theorem dX10_notes_79 : decode cX10_notes 79 = .ok (.iinc 2 1, 3) := by decide +kernel
theorem dX10_notes_82 : decode cX10_notes 82 = .ok (.goto (-38), 3) := by decide +kernel
theorem dX10_notes_85 : decode cX10_notes 85 = .ok (.iconst 0, 1) := by decide +kernel
theorem dX10_notes_86 : decode cX10_notes 86 = .ok (.istore_n 2, 1) := by decide +kernel
theorem dX10_notes_87 : decode cX10_notes 87 = .ok (.iload_n 2, 1) := by decide +kernel
theorem dX10_notes_88 : decode cX10_notes 88 = .ok (.bipush 80, 2) := by decide +kernel
theorem dX10_notes_90 : decode cX10_notes 90 = .ok (.if_icmp .ge 21, 3) := by decide +kernel
theorem dX10_notes_93 : decode cX10_notes 93 = .ok (.aload_n 1, 1) := by decide +kernel
theorem dX10_notes_94 : decode cX10_notes 94 = .ok (.bipush 36, 2) := by decide +kernel
theorem dX10_notes_96 : decode cX10_notes 96 = .ok (.iload_n 2, 1) := by decide +kernel
theorem dX10_notes_97 : decode cX10_notes 97 = .ok (.iadd, 1) := by decide +kernel
theorem dX10_notes_98 : decode cX10_notes 98 = .ok (.aload_n 0, 1) := by decide +kernel
theorem dX10_notes_99 : decode cX10_notes 99 = .ok (.getfield 79, 3) := by decide +kernel
theorem dX10_notes_102 : decode cX10_notes 102 = .ok (.iload_n 2, 1) := by decide +kernel
theorem dX10_notes_103 : decode cX10_notes 103 = .ok (.iaload, 1) := by decide +kernel
theorem dX10_notes_104 : decode cX10_notes 104 = .ok (.iastore, 1) := by decide +kernel
theorem dX10_notes_105 : decode cX10_notes 105 = .ok (.iinc 2 1, 3) := by decide +kernel
theorem dX10_notes_108 : decode cX10_notes 108 = .ok (.goto (-21), 3) := by decide +kernel
theorem dX10_notes_111 : decode cX10_notes 111 = .ok (.return_, 1) := by decide +kernel
theorem dX10_beside_0 : decode cX10_beside 0 = .ok (.iload_n 3, 1) := by decide +kernel
theorem dX10_beside_1 : decode cX10_beside 1 = .ok (.iconst 0, 1) := by decide +kernel
theorem dX10_beside_2 : decode cX10_beside 2 = .ok (.sipush 4000, 3) := by decide +kernel
theorem dX10_beside_5 : decode cX10_beside 5 = .ok (.invokestatic 131, 3) := by decide +kernel
theorem dX10_beside_8 : decode cX10_beside 8 = .ok (.ifCond .ne 6, 3) := by decide +kernel
theorem dX10_beside_11 : decode cX10_beside 11 = .ok (.bipush (-2), 2) := by decide +kernel
theorem dX10_beside_13 : decode cX10_beside 13 = .ok (.ireturn, 1) := by decide +kernel
theorem dX10_beside_14 : decode cX10_beside 14 = .ok (.aload_n 0, 1) := by decide +kernel
theorem dX10_beside_15 : decode cX10_beside 15 = .ok (.iload_n 1, 1) := by decide +kernel
theorem dX10_beside_16 : decode cX10_beside 16 = .ok (.iload_n 3, 1) := by decide +kernel
theorem dX10_beside_17 : decode cX10_beside 17 = .ok (.invokevirtual 278, 3) := by decide +kernel
theorem dX10_beside_20 : decode cX10_beside 20 = .ok (.pop, 1) := by decide +kernel
theorem dX10_beside_21 : decode cX10_beside 21 = .ok (.aload_n 0, 1) := by decide +kernel
theorem dX10_beside_22 : decode cX10_beside 22 = .ok (.aload_n 0, 1) := by decide +kernel
theorem dX10_beside_23 : decode cX10_beside 23 = .ok (.getfield 121, 3) := by decide +kernel
theorem dX10_beside_26 : decode cX10_beside 26 = .ok (.invokevirtual 281, 3) := by decide +kernel
theorem dX10_beside_29 : decode cX10_beside 29 = .ok (.aload_n 0, 1) := by decide +kernel
theorem dX10_beside_30 : decode cX10_beside 30 = .ok (.iload_n 2, 1) := by decide +kernel
theorem dX10_beside_31 : decode cX10_beside 31 = .ok (.iload_n 3, 1) := by decide +kernel
theorem dX10_beside_32 : decode cX10_beside 32 = .ok (.invokevirtual 278, 3) := by decide +kernel
theorem dX10_beside_35 : decode cX10_beside 35 = .ok (.pop, 1) := by decide +kernel
theorem dX10_beside_36 : decode cX10_beside 36 = .ok (.aload_n 0, 1) := by decide +kernel
theorem dX10_beside_37 : decode cX10_beside 37 = .ok (.aload_n 0, 1) := by decide +kernel
theorem dX10_beside_38 : decode cX10_beside 38 = .ok (.getfield 124, 3) := by decide +kernel
theorem dX10_beside_41 : decode cX10_beside 41 = .ok (.invokevirtual 281, 3) := by decide +kernel
theorem dX10_beside_44 : decode cX10_beside 44 = .ok (.aload_n 0, 1) := by decide +kernel
theorem dX10_beside_45 : decode cX10_beside 45 = .ok (.getfield 121, 3) := by decide +kernel
theorem dX10_beside_48 : decode cX10_beside 48 = .ok (.iconst 0, 1) := by decide +kernel
theorem dX10_beside_49 : decode cX10_beside 49 = .ok (.iaload, 1) := by decide +kernel
theorem dX10_beside_50 : decode cX10_beside 50 = .ok (.aload_n 0, 1) := by decide +kernel
theorem dX10_beside_51 : decode cX10_beside 51 = .ok (.getfield 124, 3) := by decide +kernel
theorem dX10_beside_54 : decode cX10_beside 54 = .ok (.iconst 0, 1) := by decide +kernel
theorem dX10_beside_55 : decode cX10_beside 55 = .ok (.iaload, 1) := by decide +kernel
theorem dX10_beside_56 : decode cX10_beside 56 = .ok (.if_icmp .eq 5, 3) := by decide +kernel
theorem dX10_beside_59 : decode cX10_beside 59 = .ok (.iconst 0, 1) := by decide +kernel
theorem dX10_beside_60 : decode cX10_beside 60 = .ok (.ireturn, 1) := by decide +kernel
theorem dX10_beside_61 : decode cX10_beside 61 = .ok (.aload_n 0, 1) := by decide +kernel
theorem dX10_beside_62 : decode cX10_beside 62 = .ok (.getfield 124, 3) := by decide +kernel
theorem dX10_beside_65 : decode cX10_beside 65 = .ok (.iconst 0, 1) := by decide +kernel
theorem dX10_beside_66 : decode cX10_beside 66 = .ok (.iaload, 1) := by decide +kernel
theorem dX10_beside_67 : decode cX10_beside 67 = .ok (.ifCond .eq 5, 3) := by decide +kernel
theorem dX10_beside_70 : decode cX10_beside 70 = .ok (.iconst (-1), 1) := by decide +kernel
theorem dX10_beside_71 : decode cX10_beside 71 = .ok (.ireturn, 1) := by decide +kernel
theorem dX10_beside_72 : decode cX10_beside 72 = .ok (.iconst 1, 1) := by decide +kernel
theorem dX10_beside_73 : decode cX10_beside 73 = .ok (.istore 4, 2) := by decide +kernel
theorem dX10_beside_75 : decode cX10_beside 75 = .ok (.iload 4, 2) := by decide +kernel
theorem dX10_beside_77 : decode cX10_beside 77 = .ok (.bipush 6, 2) := by decide +kernel
theorem dX10_beside_79 : decode cX10_beside 79 = .ok (.if_icmp .ge 29, 3) := by decide +kernel
theorem dX10_beside_82 : decode cX10_beside 82 = .ok (.aload_n 0, 1) := by decide +kernel
theorem dX10_beside_83 : decode cX10_beside 83 = .ok (.getfield 121, 3) := by decide +kernel
theorem dX10_beside_86 : decode cX10_beside 86 = .ok (.iload 4, 2) := by decide +kernel
theorem dX10_beside_88 : decode cX10_beside 88 = .ok (.iaload, 1) := by decide +kernel
theorem dX10_beside_89 : decode cX10_beside 89 = .ok (.aload_n 0, 1) := by decide +kernel
theorem dX10_beside_90 : decode cX10_beside 90 = .ok (.getfield 124, 3) := by decide +kernel
theorem dX10_beside_93 : decode cX10_beside 93 = .ok (.iload 4, 2) := by decide +kernel
theorem dX10_beside_95 : decode cX10_beside 95 = .ok (.iaload, 1) := by decide +kernel
theorem dX10_beside_96 : decode cX10_beside 96 = .ok (.if_icmp .eq 6, 3) := by decide +kernel
theorem dX10_beside_99 : decode cX10_beside 99 = .ok (.iload 4, 2) := by decide +kernel
theorem dX10_beside_101 : decode cX10_beside 101 = .ok (.ireturn, 1) := by decide +kernel
theorem dX10_beside_102 : decode cX10_beside 102 = .ok (.iinc 4 1, 3) := by decide +kernel
theorem dX10_beside_105 : decode cX10_beside 105 = .ok (.goto (-30), 3) := by decide +kernel
theorem dX10_beside_108 : decode cX10_beside 108 = .ok (.bipush 6, 2) := by decide +kernel
theorem dX10_beside_110 : decode cX10_beside 110 = .ok (.istore 4, 2) := by decide +kernel
theorem dX10_beside_112 : decode cX10_beside 112 = .ok (.iload 4, 2) := by decide +kernel
theorem dX10_beside_114 : decode cX10_beside 114 = .ok (.bipush 36, 2) := by decide +kernel
theorem dX10_beside_116 : decode cX10_beside 116 = .ok (.if_icmp .ge 37, 3) := by decide +kernel
theorem dX10_beside_119 : decode cX10_beside 119 = .ok (.aload_n 0, 1) := by decide +kernel
theorem dX10_beside_120 : decode cX10_beside 120 = .ok (.getfield 121, 3) := by decide +kernel
theorem dX10_beside_123 : decode cX10_beside 123 = .ok (.iload 4, 2) := by decide +kernel
theorem dX10_beside_125 : decode cX10_beside 125 = .ok (.iaload, 1) := by decide +kernel
theorem dX10_beside_126 : decode cX10_beside 126 = .ok (.aload_n 0, 1) := by decide +kernel
theorem dX10_beside_127 : decode cX10_beside 127 = .ok (.getfield 124, 3) := by decide +kernel
theorem dX10_beside_130 : decode cX10_beside 130 = .ok (.iload 4, 2) := by decide +kernel
theorem dX10_beside_132 : decode cX10_beside 132 = .ok (.iaload, 1) := by decide +kernel
theorem dX10_beside_133 : decode cX10_beside 133 = .ok (.if_icmp .eq 14, 3) := by decide +kernel
theorem dX10_beside_136 : decode cX10_beside 136 = .ok (.bipush 10, 2) := by decide +kernel
theorem dX10_beside_138 : decode cX10_beside 138 = .ok (.iload 4, 2) := by decide +kernel
theorem dX10_beside_140 : decode cX10_beside 140 = .ok (.bipush 6, 2) := by decide +kernel
theorem dX10_beside_142 : decode cX10_beside 142 = .ok (.isub, 1) := by decide +kernel
theorem dX10_beside_143 : decode cX10_beside 143 = .ok (.iconst 3, 1) := by decide +kernel
theorem dX10_beside_144 : decode cX10_beside 144 = .ok (.idiv, 1) := by decide +kernel
theorem dX10_beside_145 : decode cX10_beside 145 = .ok (.iadd, 1) := by decide +kernel
theorem dX10_beside_146 : decode cX10_beside 146 = .ok (.ireturn, 1) := by decide +kernel
theorem dX10_beside_147 : decode cX10_beside 147 = .ok (.iinc 4 1, 3) := by decide +kernel
theorem dX10_beside_150 : decode cX10_beside 150 = .ok (.goto (-38), 3) := by decide +kernel
theorem dX10_beside_153 : decode cX10_beside 153 = .ok (.iconst 0, 1) := by decide +kernel
theorem dX10_beside_154 : decode cX10_beside 154 = .ok (.istore 4, 2) := by decide +kernel
theorem dX10_beside_156 : decode cX10_beside 156 = .ok (.iload 4, 2) := by decide +kernel
theorem dX10_beside_158 : decode cX10_beside 158 = .ok (.aload_n 0, 1) := by decide +kernel
theorem dX10_beside_159 : decode cX10_beside 159 = .ok (.getfield 127, 3) := by decide +kernel
theorem dX10_beside_162 : decode cX10_beside 162 = .ok (.if_icmp .ge 38, 3) := by decide +kernel
theorem dX10_beside_165 : decode cX10_beside 165 = .ok (.aload_n 0, 1) := by decide +kernel
theorem dX10_beside_166 : decode cX10_beside 166 = .ok (.getfield 121, 3) := by decide +kernel
theorem dX10_beside_169 : decode cX10_beside 169 = .ok (.bipush 36, 2) := by decide +kernel
theorem dX10_beside_171 : decode cX10_beside 171 = .ok (.iload 4, 2) := by decide +kernel
theorem dX10_beside_173 : decode cX10_beside 173 = .ok (.iadd, 1) := by decide +kernel
theorem dX10_beside_174 : decode cX10_beside 174 = .ok (.iaload, 1) := by decide +kernel
theorem dX10_beside_175 : decode cX10_beside 175 = .ok (.aload_n 0, 1) := by decide +kernel
theorem dX10_beside_176 : decode cX10_beside 176 = .ok (.getfield 124, 3) := by decide +kernel
theorem dX10_beside_179 : decode cX10_beside 179 = .ok (.bipush 36, 2) := by decide +kernel
theorem dX10_beside_181 : decode cX10_beside 181 = .ok (.iload 4, 2) := by decide +kernel
theorem dX10_beside_183 : decode cX10_beside 183 = .ok (.iadd, 1) := by decide +kernel
theorem dX10_beside_184 : decode cX10_beside 184 = .ok (.iaload, 1) := by decide +kernel
theorem dX10_beside_185 : decode cX10_beside 185 = .ok (.if_icmp .eq 9, 3) := by decide +kernel
theorem dX10_beside_188 : decode cX10_beside 188 = .ok (.bipush 20, 2) := by decide +kernel
theorem dX10_beside_190 : decode cX10_beside 190 = .ok (.iload 4, 2) := by decide +kernel
theorem dX10_beside_192 : decode cX10_beside 192 = .ok (.iadd, 1) := by decide +kernel
theorem dX10_beside_193 : decode cX10_beside 193 = .ok (.ireturn, 1) := by decide +kernel
theorem dX10_beside_194 : decode cX10_beside 194 = .ok (.iinc 4 1, 3) := by decide +kernel
theorem dX10_beside_197 : decode cX10_beside 197 = .ok (.goto (-41), 3) := by decide +kernel
theorem dX10_beside_200 : decode cX10_beside 200 = .ok (.iconst (-1), 1) := by decide +kernel
theorem dX10_beside_201 : decode cX10_beside 201 = .ok (.ireturn, 1) := by decide +kernel
theorem dJ9_max_7cf53_0 : decode cJ9_max_7cf53 0 = .ok (.iload_n 0, 1) := by decide +kernel
theorem dJ9_max_7cf53_1 : decode cJ9_max_7cf53 1 = .ok (.iload_n 1, 1) := by decide +kernel
theorem dJ9_max_7cf53_2 : decode cJ9_max_7cf53 2 = .ok (.if_icmp .lt 7, 3) := by decide +kernel
theorem dJ9_max_7cf53_5 : decode cJ9_max_7cf53 5 = .ok (.iload_n 0, 1) := by decide +kernel
theorem dJ9_max_7cf53_6 : decode cJ9_max_7cf53 6 = .ok (.goto 4, 3) := by decide +kernel
theorem dJ9_max_7cf53_9 : decode cJ9_max_7cf53 9 = .ok (.iload_n 1, 1) := by decide +kernel
theorem dJ9_max_7cf53_10 : decode cJ9_max_7cf53 10 = .ok (.ireturn, 1) := by decide +kernel
theorem dJ7_fill_d0a16_0 : decode cJ7_fill_d0a16 0 = .ok (.iconst 0, 1) := by decide +kernel
theorem dJ7_fill_d0a16_1 : decode cJ7_fill_d0a16 1 = .ok (.istore_n 3, 1) := by decide +kernel
theorem dJ7_fill_d0a16_2 : decode cJ7_fill_d0a16 2 = .ok (.aload_n 0, 1) := by decide +kernel
theorem dJ7_fill_d0a16_3 : decode cJ7_fill_d0a16 3 = .ok (.arraylength, 1) := by decide +kernel
theorem dJ7_fill_d0a16_4 : decode cJ7_fill_d0a16 4 = .ok (.istore 4, 2) := by decide +kernel
theorem dJ7_fill_d0a16_6 : decode cJ7_fill_d0a16 6 = .ok (.iload_n 3, 1) := by decide +kernel
theorem dJ7_fill_d0a16_7 : decode cJ7_fill_d0a16 7 = .ok (.iload 4, 2) := by decide +kernel
theorem dJ7_fill_d0a16_9 : decode cJ7_fill_d0a16 9 = .ok (.if_icmp .ge 13, 3) := by decide +kernel
theorem dJ7_fill_d0a16_12 : decode cJ7_fill_d0a16 12 = .ok (.aload_n 0, 1) := by decide +kernel
theorem dJ7_fill_d0a16_13 : decode cJ7_fill_d0a16 13 = .ok (.iload_n 3, 1) := by decide +kernel
theorem dJ7_fill_d0a16_14 : decode cJ7_fill_d0a16 14 = .ok (.lload_n 1, 1) := by decide +kernel
theorem dJ7_fill_d0a16_15 : decode cJ7_fill_d0a16 15 = .ok (.lastore, 1) := by decide +kernel
theorem dJ7_fill_d0a16_16 : decode cJ7_fill_d0a16 16 = .ok (.iinc 3 1, 3) := by decide +kernel
theorem dJ7_fill_d0a16_19 : decode cJ7_fill_d0a16 19 = .ok (.goto (-13), 3) := by decide +kernel
theorem dJ7_fill_d0a16_22 : decode cJ7_fill_d0a16 22 = .ok (.return_, 1) := by decide +kernel
theorem dJ7_fill_53178_0 : decode cJ7_fill_53178 0 = .ok (.iconst 0, 1) := by decide +kernel
theorem dJ7_fill_53178_1 : decode cJ7_fill_53178 1 = .ok (.istore_n 2, 1) := by decide +kernel
theorem dJ7_fill_53178_2 : decode cJ7_fill_53178 2 = .ok (.aload_n 0, 1) := by decide +kernel
theorem dJ7_fill_53178_3 : decode cJ7_fill_53178 3 = .ok (.arraylength, 1) := by decide +kernel
theorem dJ7_fill_53178_4 : decode cJ7_fill_53178 4 = .ok (.istore_n 3, 1) := by decide +kernel
theorem dJ7_fill_53178_5 : decode cJ7_fill_53178 5 = .ok (.iload_n 2, 1) := by decide +kernel
theorem dJ7_fill_53178_6 : decode cJ7_fill_53178 6 = .ok (.iload_n 3, 1) := by decide +kernel
theorem dJ7_fill_53178_7 : decode cJ7_fill_53178 7 = .ok (.if_icmp .ge 13, 3) := by decide +kernel
theorem dJ7_fill_53178_10 : decode cJ7_fill_53178 10 = .ok (.aload_n 0, 1) := by decide +kernel
theorem dJ7_fill_53178_11 : decode cJ7_fill_53178 11 = .ok (.iload_n 2, 1) := by decide +kernel
theorem dJ7_fill_53178_12 : decode cJ7_fill_53178 12 = .ok (.iload_n 1, 1) := by decide +kernel
theorem dJ7_fill_53178_13 : decode cJ7_fill_53178 13 = .ok (.iastore, 1) := by decide +kernel
theorem dJ7_fill_53178_14 : decode cJ7_fill_53178 14 = .ok (.iinc 2 1, 3) := by decide +kernel
theorem dJ7_fill_53178_17 : decode cJ7_fill_53178 17 = .ok (.goto (-12), 3) := by decide +kernel
theorem dJ7_fill_53178_20 : decode cJ7_fill_53178 20 = .ok (.return_, 1) := by decide +kernel
theorem dL_law_0 : decode cL_law 0 = .ok (.new 7, 3) := by decide +kernel
theorem dL_law_3 : decode cL_law 3 = .ok (.dup, 1) := by decide +kernel
theorem dL_law_4 : decode cL_law 4 = .ok (.invokespecial 9, 3) := by decide +kernel
theorem dL_law_7 : decode cL_law 7 = .ok (.astore_n 1, 1) := by decide +kernel
theorem dL_law_8 : decode cL_law 8 = .ok (.new 10, 3) := by decide +kernel
theorem dL_law_11 : decode cL_law 11 = .ok (.dup, 1) := by decide +kernel
theorem dL_law_12 : decode cL_law 12 = .ok (.invokespecial 12, 3) := by decide +kernel
theorem dL_law_15 : decode cL_law 15 = .ok (.astore_n 2, 1) := by decide +kernel
theorem dL_law_16 : decode cL_law 16 = .ok (.iconst 0, 1) := by decide +kernel
theorem dL_law_17 : decode cL_law 17 = .ok (.istore_n 3, 1) := by decide +kernel
theorem dL_law_18 : decode cL_law 18 = .ok (.iload_n 3, 1) := by decide +kernel
theorem dL_law_19 : decode cL_law 19 = .ok (.aload_n 0, 1) := by decide +kernel
theorem dL_law_20 : decode cL_law 20 = .ok (.arraylength, 1) := by decide +kernel
theorem dL_law_21 : decode cL_law 21 = .ok (.iconst 5, 1) := by decide +kernel
theorem dL_law_22 : decode cL_law 22 = .ok (.isub, 1) := by decide +kernel
theorem dL_law_23 : decode cL_law 23 = .ok (.if_icmp .gt 495, 3) := by decide +kernel
theorem dL_law_26 : decode cL_law 26 = .ok (.aload_n 0, 1) := by decide +kernel
theorem dL_law_27 : decode cL_law 27 = .ok (.iload_n 3, 1) := by decide +kernel
theorem dL_law_28 : decode cL_law 28 = .ok (.iaload, 1) := by decide +kernel
theorem dL_law_29 : decode cL_law 29 = .ok (.bipush 15, 2) := by decide +kernel
theorem dL_law_31 : decode cL_law 31 = .ok (.iand, 1) := by decide +kernel
theorem dL_law_32 : decode cL_law 32 = .ok (.tableswitch 480 0 11 #[64, 107, 160, 203, 226, 259, 282, 305, 338, 361, 404, 437], 64) := by decide +kernel
theorem dL_law_96 : decode cL_law 96 = .ok (.aload_n 1, 1) := by decide +kernel
theorem dL_law_97 : decode cL_law 97 = .ok (.aload_n 0, 1) := by decide +kernel
theorem dL_law_98 : decode cL_law 98 = .ok (.iload_n 3, 1) := by decide +kernel
theorem dL_law_99 : decode cL_law 99 = .ok (.iconst 1, 1) := by decide +kernel
theorem dL_law_100 : decode cL_law 100 = .ok (.iadd, 1) := by decide +kernel
theorem dL_law_101 : decode cL_law 101 = .ok (.iaload, 1) := by decide +kernel
theorem dL_law_102 : decode cL_law 102 = .ok (.aload_n 0, 1) := by decide +kernel
theorem dL_law_103 : decode cL_law 103 = .ok (.iload_n 3, 1) := by decide +kernel
theorem dL_law_104 : decode cL_law 104 = .ok (.iconst 2, 1) := by decide +kernel
theorem dL_law_105 : decode cL_law 105 = .ok (.iadd, 1) := by decide +kernel
theorem dL_law_106 : decode cL_law 106 = .ok (.iaload, 1) := by decide +kernel
theorem dL_law_107 : decode cL_law 107 = .ok (.aload_n 0, 1) := by decide +kernel
theorem dL_law_108 : decode cL_law 108 = .ok (.iload_n 3, 1) := by decide +kernel
theorem dL_law_109 : decode cL_law 109 = .ok (.iconst 3, 1) := by decide +kernel
theorem dL_law_110 : decode cL_law 110 = .ok (.iadd, 1) := by decide +kernel
theorem dL_law_111 : decode cL_law 111 = .ok (.iaload, 1) := by decide +kernel
theorem dL_law_112 : decode cL_law 112 = .ok (.invokevirtual 13, 3) := by decide +kernel
theorem dL_law_115 : decode cL_law 115 = .ok (.aload_n 2, 1) := by decide +kernel
theorem dL_law_116 : decode cL_law 116 = .ok (.aload_n 0, 1) := by decide +kernel
theorem dL_law_117 : decode cL_law 117 = .ok (.iload_n 3, 1) := by decide +kernel
theorem dL_law_118 : decode cL_law 118 = .ok (.iconst 1, 1) := by decide +kernel
theorem dL_law_119 : decode cL_law 119 = .ok (.iadd, 1) := by decide +kernel
theorem dL_law_120 : decode cL_law 120 = .ok (.iaload, 1) := by decide +kernel
theorem dL_law_121 : decode cL_law 121 = .ok (.aload_n 0, 1) := by decide +kernel
theorem dL_law_122 : decode cL_law 122 = .ok (.iload_n 3, 1) := by decide +kernel
theorem dL_law_123 : decode cL_law 123 = .ok (.iconst 2, 1) := by decide +kernel
theorem dL_law_124 : decode cL_law 124 = .ok (.iadd, 1) := by decide +kernel
theorem dL_law_125 : decode cL_law 125 = .ok (.iaload, 1) := by decide +kernel
theorem dL_law_126 : decode cL_law 126 = .ok (.aload_n 0, 1) := by decide +kernel
theorem dL_law_127 : decode cL_law 127 = .ok (.iload_n 3, 1) := by decide +kernel
theorem dL_law_128 : decode cL_law 128 = .ok (.iconst 3, 1) := by decide +kernel
theorem dL_law_129 : decode cL_law 129 = .ok (.iadd, 1) := by decide +kernel
theorem dL_law_130 : decode cL_law 130 = .ok (.iaload, 1) := by decide +kernel
theorem dL_law_131 : decode cL_law 131 = .ok (.invokevirtual 17, 3) := by decide +kernel
theorem dL_law_134 : decode cL_law 134 = .ok (.if_icmp .eq 378, 3) := by decide +kernel
theorem dL_law_137 : decode cL_law 137 = .ok (.iconst 0, 1) := by decide +kernel
theorem dL_law_138 : decode cL_law 138 = .ok (.ireturn, 1) := by decide +kernel
theorem dL_law_139 : decode cL_law 139 = .ok (.aload_n 1, 1) := by decide +kernel
theorem dL_law_140 : decode cL_law 140 = .ok (.aload_n 0, 1) := by decide +kernel
theorem dL_law_141 : decode cL_law 141 = .ok (.iload_n 3, 1) := by decide +kernel
theorem dL_law_142 : decode cL_law 142 = .ok (.iconst 1, 1) := by decide +kernel
theorem dL_law_143 : decode cL_law 143 = .ok (.iadd, 1) := by decide +kernel
theorem dL_law_144 : decode cL_law 144 = .ok (.iaload, 1) := by decide +kernel
theorem dL_law_145 : decode cL_law 145 = .ok (.aload_n 0, 1) := by decide +kernel
theorem dL_law_146 : decode cL_law 146 = .ok (.iload_n 3, 1) := by decide +kernel
theorem dL_law_147 : decode cL_law 147 = .ok (.iconst 2, 1) := by decide +kernel
theorem dL_law_148 : decode cL_law 148 = .ok (.iadd, 1) := by decide +kernel
theorem dL_law_149 : decode cL_law 149 = .ok (.iaload, 1) := by decide +kernel
theorem dL_law_150 : decode cL_law 150 = .ok (.aload_n 0, 1) := by decide +kernel
theorem dL_law_151 : decode cL_law 151 = .ok (.iload_n 3, 1) := by decide +kernel
theorem dL_law_152 : decode cL_law 152 = .ok (.iconst 3, 1) := by decide +kernel
theorem dL_law_153 : decode cL_law 153 = .ok (.iadd, 1) := by decide +kernel
theorem dL_law_154 : decode cL_law 154 = .ok (.iaload, 1) := by decide +kernel
theorem dL_law_155 : decode cL_law 155 = .ok (.aload_n 0, 1) := by decide +kernel
theorem dL_law_156 : decode cL_law 156 = .ok (.iload_n 3, 1) := by decide +kernel
theorem dL_law_157 : decode cL_law 157 = .ok (.iconst 4, 1) := by decide +kernel
theorem dL_law_158 : decode cL_law 158 = .ok (.iadd, 1) := by decide +kernel
theorem dL_law_159 : decode cL_law 159 = .ok (.iaload, 1) := by decide +kernel
theorem dL_law_160 : decode cL_law 160 = .ok (.invokevirtual 18, 3) := by decide +kernel
theorem dL_law_163 : decode cL_law 163 = .ok (.aload_n 2, 1) := by decide +kernel
theorem dL_law_164 : decode cL_law 164 = .ok (.aload_n 0, 1) := by decide +kernel
theorem dL_law_165 : decode cL_law 165 = .ok (.iload_n 3, 1) := by decide +kernel
theorem dL_law_166 : decode cL_law 166 = .ok (.iconst 1, 1) := by decide +kernel
theorem dL_law_167 : decode cL_law 167 = .ok (.iadd, 1) := by decide +kernel
theorem dL_law_168 : decode cL_law 168 = .ok (.iaload, 1) := by decide +kernel
theorem dL_law_169 : decode cL_law 169 = .ok (.aload_n 0, 1) := by decide +kernel
theorem dL_law_170 : decode cL_law 170 = .ok (.iload_n 3, 1) := by decide +kernel
theorem dL_law_171 : decode cL_law 171 = .ok (.iconst 2, 1) := by decide +kernel
theorem dL_law_172 : decode cL_law 172 = .ok (.iadd, 1) := by decide +kernel
theorem dL_law_173 : decode cL_law 173 = .ok (.iaload, 1) := by decide +kernel
theorem dL_law_174 : decode cL_law 174 = .ok (.aload_n 0, 1) := by decide +kernel
theorem dL_law_175 : decode cL_law 175 = .ok (.iload_n 3, 1) := by decide +kernel
theorem dL_law_176 : decode cL_law 176 = .ok (.iconst 3, 1) := by decide +kernel
theorem dL_law_177 : decode cL_law 177 = .ok (.iadd, 1) := by decide +kernel
theorem dL_law_178 : decode cL_law 178 = .ok (.iaload, 1) := by decide +kernel
theorem dL_law_179 : decode cL_law 179 = .ok (.aload_n 0, 1) := by decide +kernel
theorem dL_law_180 : decode cL_law 180 = .ok (.iload_n 3, 1) := by decide +kernel
theorem dL_law_181 : decode cL_law 181 = .ok (.iconst 4, 1) := by decide +kernel
theorem dL_law_182 : decode cL_law 182 = .ok (.iadd, 1) := by decide +kernel
theorem dL_law_183 : decode cL_law 183 = .ok (.iaload, 1) := by decide +kernel
theorem dL_law_184 : decode cL_law 184 = .ok (.invokevirtual 22, 3) := by decide +kernel
theorem dL_law_187 : decode cL_law 187 = .ok (.if_icmp .eq 325, 3) := by decide +kernel
theorem dL_law_190 : decode cL_law 190 = .ok (.iconst 0, 1) := by decide +kernel
theorem dL_law_191 : decode cL_law 191 = .ok (.ireturn, 1) := by decide +kernel
theorem dL_law_192 : decode cL_law 192 = .ok (.aload_n 1, 1) := by decide +kernel
theorem dL_law_193 : decode cL_law 193 = .ok (.aload_n 0, 1) := by decide +kernel
theorem dL_law_194 : decode cL_law 194 = .ok (.iload_n 3, 1) := by decide +kernel
theorem dL_law_195 : decode cL_law 195 = .ok (.iconst 1, 1) := by decide +kernel
theorem dL_law_196 : decode cL_law 196 = .ok (.iadd, 1) := by decide +kernel
theorem dL_law_197 : decode cL_law 197 = .ok (.iaload, 1) := by decide +kernel
theorem dL_law_198 : decode cL_law 198 = .ok (.aload_n 0, 1) := by decide +kernel
theorem dL_law_199 : decode cL_law 199 = .ok (.iload_n 3, 1) := by decide +kernel
theorem dL_law_200 : decode cL_law 200 = .ok (.iconst 2, 1) := by decide +kernel
theorem dL_law_201 : decode cL_law 201 = .ok (.iadd, 1) := by decide +kernel
theorem dL_law_202 : decode cL_law 202 = .ok (.iaload, 1) := by decide +kernel
theorem dL_law_203 : decode cL_law 203 = .ok (.aload_n 0, 1) := by decide +kernel
theorem dL_law_204 : decode cL_law 204 = .ok (.iload_n 3, 1) := by decide +kernel
theorem dL_law_205 : decode cL_law 205 = .ok (.iconst 3, 1) := by decide +kernel
theorem dL_law_206 : decode cL_law 206 = .ok (.iadd, 1) := by decide +kernel
theorem dL_law_207 : decode cL_law 207 = .ok (.iaload, 1) := by decide +kernel
theorem dL_law_208 : decode cL_law 208 = .ok (.invokevirtual 23, 3) := by decide +kernel
theorem dL_law_211 : decode cL_law 211 = .ok (.aload_n 2, 1) := by decide +kernel
theorem dL_law_212 : decode cL_law 212 = .ok (.aload_n 0, 1) := by decide +kernel
theorem dL_law_213 : decode cL_law 213 = .ok (.iload_n 3, 1) := by decide +kernel
theorem dL_law_214 : decode cL_law 214 = .ok (.iconst 1, 1) := by decide +kernel
theorem dL_law_215 : decode cL_law 215 = .ok (.iadd, 1) := by decide +kernel
theorem dL_law_216 : decode cL_law 216 = .ok (.iaload, 1) := by decide +kernel
theorem dL_law_217 : decode cL_law 217 = .ok (.aload_n 0, 1) := by decide +kernel
theorem dL_law_218 : decode cL_law 218 = .ok (.iload_n 3, 1) := by decide +kernel
theorem dL_law_219 : decode cL_law 219 = .ok (.iconst 2, 1) := by decide +kernel
theorem dL_law_220 : decode cL_law 220 = .ok (.iadd, 1) := by decide +kernel
theorem dL_law_221 : decode cL_law 221 = .ok (.iaload, 1) := by decide +kernel
theorem dL_law_222 : decode cL_law 222 = .ok (.aload_n 0, 1) := by decide +kernel
theorem dL_law_223 : decode cL_law 223 = .ok (.iload_n 3, 1) := by decide +kernel
theorem dL_law_224 : decode cL_law 224 = .ok (.iconst 3, 1) := by decide +kernel
theorem dL_law_225 : decode cL_law 225 = .ok (.iadd, 1) := by decide +kernel
theorem dL_law_226 : decode cL_law 226 = .ok (.iaload, 1) := by decide +kernel
theorem dL_law_227 : decode cL_law 227 = .ok (.invokevirtual 26, 3) := by decide +kernel
theorem dL_law_230 : decode cL_law 230 = .ok (.if_icmp .eq 282, 3) := by decide +kernel
theorem dL_law_233 : decode cL_law 233 = .ok (.iconst 0, 1) := by decide +kernel
theorem dL_law_234 : decode cL_law 234 = .ok (.ireturn, 1) := by decide +kernel
theorem dL_law_235 : decode cL_law 235 = .ok (.aload_n 1, 1) := by decide +kernel
theorem dL_law_236 : decode cL_law 236 = .ok (.aload_n 0, 1) := by decide +kernel
theorem dL_law_237 : decode cL_law 237 = .ok (.iload_n 3, 1) := by decide +kernel
theorem dL_law_238 : decode cL_law 238 = .ok (.iconst 1, 1) := by decide +kernel
theorem dL_law_239 : decode cL_law 239 = .ok (.iadd, 1) := by decide +kernel
theorem dL_law_240 : decode cL_law 240 = .ok (.iaload, 1) := by decide +kernel
theorem dL_law_241 : decode cL_law 241 = .ok (.invokevirtual 27, 3) := by decide +kernel
theorem dL_law_244 : decode cL_law 244 = .ok (.aload_n 2, 1) := by decide +kernel
theorem dL_law_245 : decode cL_law 245 = .ok (.aload_n 0, 1) := by decide +kernel
theorem dL_law_246 : decode cL_law 246 = .ok (.iload_n 3, 1) := by decide +kernel
theorem dL_law_247 : decode cL_law 247 = .ok (.iconst 1, 1) := by decide +kernel
theorem dL_law_248 : decode cL_law 248 = .ok (.iadd, 1) := by decide +kernel
theorem dL_law_249 : decode cL_law 249 = .ok (.iaload, 1) := by decide +kernel
theorem dL_law_250 : decode cL_law 250 = .ok (.invokevirtual 31, 3) := by decide +kernel
theorem dL_law_253 : decode cL_law 253 = .ok (.if_icmp .eq 259, 3) := by decide +kernel
theorem dL_law_256 : decode cL_law 256 = .ok (.iconst 0, 1) := by decide +kernel
theorem dL_law_257 : decode cL_law 257 = .ok (.ireturn, 1) := by decide +kernel
theorem dL_law_258 : decode cL_law 258 = .ok (.aload_n 1, 1) := by decide +kernel
theorem dL_law_259 : decode cL_law 259 = .ok (.aload_n 0, 1) := by decide +kernel
theorem dL_law_260 : decode cL_law 260 = .ok (.iload_n 3, 1) := by decide +kernel
theorem dL_law_261 : decode cL_law 261 = .ok (.iconst 1, 1) := by decide +kernel
theorem dL_law_262 : decode cL_law 262 = .ok (.iadd, 1) := by decide +kernel
theorem dL_law_263 : decode cL_law 263 = .ok (.iaload, 1) := by decide +kernel
theorem dL_law_264 : decode cL_law 264 = .ok (.aload_n 0, 1) := by decide +kernel
theorem dL_law_265 : decode cL_law 265 = .ok (.iload_n 3, 1) := by decide +kernel
theorem dL_law_266 : decode cL_law 266 = .ok (.iconst 2, 1) := by decide +kernel
theorem dL_law_267 : decode cL_law 267 = .ok (.iadd, 1) := by decide +kernel
theorem dL_law_268 : decode cL_law 268 = .ok (.iaload, 1) := by decide +kernel
theorem dL_law_269 : decode cL_law 269 = .ok (.invokevirtual 32, 3) := by decide +kernel
theorem dL_law_272 : decode cL_law 272 = .ok (.aload_n 2, 1) := by decide +kernel
theorem dL_law_273 : decode cL_law 273 = .ok (.aload_n 0, 1) := by decide +kernel
theorem dL_law_274 : decode cL_law 274 = .ok (.iload_n 3, 1) := by decide +kernel
theorem dL_law_275 : decode cL_law 275 = .ok (.iconst 1, 1) := by decide +kernel
theorem dL_law_276 : decode cL_law 276 = .ok (.iadd, 1) := by decide +kernel
theorem dL_law_277 : decode cL_law 277 = .ok (.iaload, 1) := by decide +kernel
theorem dL_law_278 : decode cL_law 278 = .ok (.aload_n 0, 1) := by decide +kernel
theorem dL_law_279 : decode cL_law 279 = .ok (.iload_n 3, 1) := by decide +kernel
theorem dL_law_280 : decode cL_law 280 = .ok (.iconst 2, 1) := by decide +kernel
theorem dL_law_281 : decode cL_law 281 = .ok (.iadd, 1) := by decide +kernel
theorem dL_law_282 : decode cL_law 282 = .ok (.iaload, 1) := by decide +kernel
theorem dL_law_283 : decode cL_law 283 = .ok (.invokevirtual 36, 3) := by decide +kernel
theorem dL_law_286 : decode cL_law 286 = .ok (.if_icmp .eq 226, 3) := by decide +kernel
theorem dL_law_289 : decode cL_law 289 = .ok (.iconst 0, 1) := by decide +kernel
theorem dL_law_290 : decode cL_law 290 = .ok (.ireturn, 1) := by decide +kernel
theorem dL_law_291 : decode cL_law 291 = .ok (.aload_n 1, 1) := by decide +kernel
theorem dL_law_292 : decode cL_law 292 = .ok (.aload_n 0, 1) := by decide +kernel
theorem dL_law_293 : decode cL_law 293 = .ok (.iload_n 3, 1) := by decide +kernel
theorem dL_law_294 : decode cL_law 294 = .ok (.iconst 1, 1) := by decide +kernel
theorem dL_law_295 : decode cL_law 295 = .ok (.iadd, 1) := by decide +kernel
theorem dL_law_296 : decode cL_law 296 = .ok (.iaload, 1) := by decide +kernel
theorem dL_law_297 : decode cL_law 297 = .ok (.invokevirtual 37, 3) := by decide +kernel
theorem dL_law_300 : decode cL_law 300 = .ok (.aload_n 2, 1) := by decide +kernel
theorem dL_law_301 : decode cL_law 301 = .ok (.aload_n 0, 1) := by decide +kernel
theorem dL_law_302 : decode cL_law 302 = .ok (.iload_n 3, 1) := by decide +kernel
theorem dL_law_303 : decode cL_law 303 = .ok (.iconst 1, 1) := by decide +kernel
theorem dL_law_304 : decode cL_law 304 = .ok (.iadd, 1) := by decide +kernel
theorem dL_law_305 : decode cL_law 305 = .ok (.iaload, 1) := by decide +kernel
theorem dL_law_306 : decode cL_law 306 = .ok (.invokevirtual 41, 3) := by decide +kernel
theorem dL_law_309 : decode cL_law 309 = .ok (.if_icmp .eq 203, 3) := by decide +kernel
theorem dL_law_312 : decode cL_law 312 = .ok (.iconst 0, 1) := by decide +kernel
theorem dL_law_313 : decode cL_law 313 = .ok (.ireturn, 1) := by decide +kernel
theorem dL_law_314 : decode cL_law 314 = .ok (.aload_n 1, 1) := by decide +kernel
theorem dL_law_315 : decode cL_law 315 = .ok (.aload_n 0, 1) := by decide +kernel
theorem dL_law_316 : decode cL_law 316 = .ok (.iload_n 3, 1) := by decide +kernel
theorem dL_law_317 : decode cL_law 317 = .ok (.iconst 1, 1) := by decide +kernel
theorem dL_law_318 : decode cL_law 318 = .ok (.iadd, 1) := by decide +kernel
theorem dL_law_319 : decode cL_law 319 = .ok (.iaload, 1) := by decide +kernel
theorem dL_law_320 : decode cL_law 320 = .ok (.invokevirtual 42, 3) := by decide +kernel
theorem dL_law_323 : decode cL_law 323 = .ok (.aload_n 2, 1) := by decide +kernel
theorem dL_law_324 : decode cL_law 324 = .ok (.aload_n 0, 1) := by decide +kernel
theorem dL_law_325 : decode cL_law 325 = .ok (.iload_n 3, 1) := by decide +kernel
theorem dL_law_326 : decode cL_law 326 = .ok (.iconst 1, 1) := by decide +kernel
theorem dL_law_327 : decode cL_law 327 = .ok (.iadd, 1) := by decide +kernel
theorem dL_law_328 : decode cL_law 328 = .ok (.iaload, 1) := by decide +kernel
theorem dL_law_329 : decode cL_law 329 = .ok (.invokevirtual 45, 3) := by decide +kernel
theorem dL_law_332 : decode cL_law 332 = .ok (.if_icmp .eq 180, 3) := by decide +kernel
theorem dL_law_335 : decode cL_law 335 = .ok (.iconst 0, 1) := by decide +kernel
theorem dL_law_336 : decode cL_law 336 = .ok (.ireturn, 1) := by decide +kernel
theorem dL_law_337 : decode cL_law 337 = .ok (.aload_n 1, 1) := by decide +kernel
theorem dL_law_338 : decode cL_law 338 = .ok (.aload_n 0, 1) := by decide +kernel
theorem dL_law_339 : decode cL_law 339 = .ok (.iload_n 3, 1) := by decide +kernel
theorem dL_law_340 : decode cL_law 340 = .ok (.iconst 1, 1) := by decide +kernel
theorem dL_law_341 : decode cL_law 341 = .ok (.iadd, 1) := by decide +kernel
theorem dL_law_342 : decode cL_law 342 = .ok (.iaload, 1) := by decide +kernel
theorem dL_law_343 : decode cL_law 343 = .ok (.aload_n 0, 1) := by decide +kernel
theorem dL_law_344 : decode cL_law 344 = .ok (.iload_n 3, 1) := by decide +kernel
theorem dL_law_345 : decode cL_law 345 = .ok (.iconst 2, 1) := by decide +kernel
theorem dL_law_346 : decode cL_law 346 = .ok (.iadd, 1) := by decide +kernel
theorem dL_law_347 : decode cL_law 347 = .ok (.iaload, 1) := by decide +kernel
theorem dL_law_348 : decode cL_law 348 = .ok (.invokevirtual 46, 3) := by decide +kernel
theorem dL_law_351 : decode cL_law 351 = .ok (.aload_n 2, 1) := by decide +kernel
theorem dL_law_352 : decode cL_law 352 = .ok (.aload_n 0, 1) := by decide +kernel
theorem dL_law_353 : decode cL_law 353 = .ok (.iload_n 3, 1) := by decide +kernel
theorem dL_law_354 : decode cL_law 354 = .ok (.iconst 1, 1) := by decide +kernel
theorem dL_law_355 : decode cL_law 355 = .ok (.iadd, 1) := by decide +kernel
theorem dL_law_356 : decode cL_law 356 = .ok (.iaload, 1) := by decide +kernel
theorem dL_law_357 : decode cL_law 357 = .ok (.aload_n 0, 1) := by decide +kernel
theorem dL_law_358 : decode cL_law 358 = .ok (.iload_n 3, 1) := by decide +kernel
theorem dL_law_359 : decode cL_law 359 = .ok (.iconst 2, 1) := by decide +kernel
theorem dL_law_360 : decode cL_law 360 = .ok (.iadd, 1) := by decide +kernel
theorem dL_law_361 : decode cL_law 361 = .ok (.iaload, 1) := by decide +kernel
theorem dL_law_362 : decode cL_law 362 = .ok (.invokevirtual 49, 3) := by decide +kernel
theorem dL_law_365 : decode cL_law 365 = .ok (.if_icmp .eq 147, 3) := by decide +kernel
theorem dL_law_368 : decode cL_law 368 = .ok (.iconst 0, 1) := by decide +kernel
theorem dL_law_369 : decode cL_law 369 = .ok (.ireturn, 1) := by decide +kernel
theorem dL_law_370 : decode cL_law 370 = .ok (.aload_n 1, 1) := by decide +kernel
theorem dL_law_371 : decode cL_law 371 = .ok (.aload_n 0, 1) := by decide +kernel
theorem dL_law_372 : decode cL_law 372 = .ok (.iload_n 3, 1) := by decide +kernel
theorem dL_law_373 : decode cL_law 373 = .ok (.iconst 1, 1) := by decide +kernel
theorem dL_law_374 : decode cL_law 374 = .ok (.iadd, 1) := by decide +kernel
theorem dL_law_375 : decode cL_law 375 = .ok (.iaload, 1) := by decide +kernel
theorem dL_law_376 : decode cL_law 376 = .ok (.invokevirtual 50, 3) := by decide +kernel
theorem dL_law_379 : decode cL_law 379 = .ok (.aload_n 2, 1) := by decide +kernel
theorem dL_law_380 : decode cL_law 380 = .ok (.aload_n 0, 1) := by decide +kernel
theorem dL_law_381 : decode cL_law 381 = .ok (.iload_n 3, 1) := by decide +kernel
theorem dL_law_382 : decode cL_law 382 = .ok (.iconst 1, 1) := by decide +kernel
theorem dL_law_383 : decode cL_law 383 = .ok (.iadd, 1) := by decide +kernel
theorem dL_law_384 : decode cL_law 384 = .ok (.iaload, 1) := by decide +kernel
theorem dL_law_385 : decode cL_law 385 = .ok (.invokevirtual 53, 3) := by decide +kernel
theorem dL_law_388 : decode cL_law 388 = .ok (.if_icmp .eq 124, 3) := by decide +kernel
theorem dL_law_391 : decode cL_law 391 = .ok (.iconst 0, 1) := by decide +kernel
theorem dL_law_392 : decode cL_law 392 = .ok (.ireturn, 1) := by decide +kernel
theorem dL_law_393 : decode cL_law 393 = .ok (.aload_n 1, 1) := by decide +kernel
theorem dL_law_394 : decode cL_law 394 = .ok (.aload_n 0, 1) := by decide +kernel
theorem dL_law_395 : decode cL_law 395 = .ok (.iload_n 3, 1) := by decide +kernel
theorem dL_law_396 : decode cL_law 396 = .ok (.iconst 1, 1) := by decide +kernel
theorem dL_law_397 : decode cL_law 397 = .ok (.iadd, 1) := by decide +kernel
theorem dL_law_398 : decode cL_law 398 = .ok (.iaload, 1) := by decide +kernel
theorem dL_law_399 : decode cL_law 399 = .ok (.aload_n 0, 1) := by decide +kernel
theorem dL_law_400 : decode cL_law 400 = .ok (.iload_n 3, 1) := by decide +kernel
theorem dL_law_401 : decode cL_law 401 = .ok (.iconst 2, 1) := by decide +kernel
theorem dL_law_402 : decode cL_law 402 = .ok (.iadd, 1) := by decide +kernel
theorem dL_law_403 : decode cL_law 403 = .ok (.iaload, 1) := by decide +kernel
theorem dL_law_404 : decode cL_law 404 = .ok (.aload_n 0, 1) := by decide +kernel
theorem dL_law_405 : decode cL_law 405 = .ok (.iload_n 3, 1) := by decide +kernel
theorem dL_law_406 : decode cL_law 406 = .ok (.iconst 3, 1) := by decide +kernel
theorem dL_law_407 : decode cL_law 407 = .ok (.iadd, 1) := by decide +kernel
theorem dL_law_408 : decode cL_law 408 = .ok (.iaload, 1) := by decide +kernel
theorem dL_law_409 : decode cL_law 409 = .ok (.invokevirtual 54, 3) := by decide +kernel
theorem dL_law_412 : decode cL_law 412 = .ok (.aload_n 2, 1) := by decide +kernel
theorem dL_law_413 : decode cL_law 413 = .ok (.aload_n 0, 1) := by decide +kernel
theorem dL_law_414 : decode cL_law 414 = .ok (.iload_n 3, 1) := by decide +kernel
theorem dL_law_415 : decode cL_law 415 = .ok (.iconst 1, 1) := by decide +kernel
theorem dL_law_416 : decode cL_law 416 = .ok (.iadd, 1) := by decide +kernel
theorem dL_law_417 : decode cL_law 417 = .ok (.iaload, 1) := by decide +kernel
theorem dL_law_418 : decode cL_law 418 = .ok (.aload_n 0, 1) := by decide +kernel
theorem dL_law_419 : decode cL_law 419 = .ok (.iload_n 3, 1) := by decide +kernel
theorem dL_law_420 : decode cL_law 420 = .ok (.iconst 2, 1) := by decide +kernel
theorem dL_law_421 : decode cL_law 421 = .ok (.iadd, 1) := by decide +kernel
theorem dL_law_422 : decode cL_law 422 = .ok (.iaload, 1) := by decide +kernel
theorem dL_law_423 : decode cL_law 423 = .ok (.aload_n 0, 1) := by decide +kernel
theorem dL_law_424 : decode cL_law 424 = .ok (.iload_n 3, 1) := by decide +kernel
theorem dL_law_425 : decode cL_law 425 = .ok (.iconst 3, 1) := by decide +kernel
theorem dL_law_426 : decode cL_law 426 = .ok (.iadd, 1) := by decide +kernel
theorem dL_law_427 : decode cL_law 427 = .ok (.iaload, 1) := by decide +kernel
theorem dL_law_428 : decode cL_law 428 = .ok (.invokevirtual 57, 3) := by decide +kernel
theorem dL_law_431 : decode cL_law 431 = .ok (.if_icmp .eq 81, 3) := by decide +kernel
theorem dL_law_434 : decode cL_law 434 = .ok (.iconst 0, 1) := by decide +kernel
theorem dL_law_435 : decode cL_law 435 = .ok (.ireturn, 1) := by decide +kernel
theorem dL_law_436 : decode cL_law 436 = .ok (.aload_n 1, 1) := by decide +kernel
theorem dL_law_437 : decode cL_law 437 = .ok (.aload_n 0, 1) := by decide +kernel
theorem dL_law_438 : decode cL_law 438 = .ok (.iload_n 3, 1) := by decide +kernel
theorem dL_law_439 : decode cL_law 439 = .ok (.iconst 1, 1) := by decide +kernel
theorem dL_law_440 : decode cL_law 440 = .ok (.iadd, 1) := by decide +kernel
theorem dL_law_441 : decode cL_law 441 = .ok (.iaload, 1) := by decide +kernel
theorem dL_law_442 : decode cL_law 442 = .ok (.aload_n 0, 1) := by decide +kernel
theorem dL_law_443 : decode cL_law 443 = .ok (.iload_n 3, 1) := by decide +kernel
theorem dL_law_444 : decode cL_law 444 = .ok (.iconst 2, 1) := by decide +kernel
theorem dL_law_445 : decode cL_law 445 = .ok (.iadd, 1) := by decide +kernel
theorem dL_law_446 : decode cL_law 446 = .ok (.iaload, 1) := by decide +kernel
theorem dL_law_447 : decode cL_law 447 = .ok (.invokevirtual 58, 3) := by decide +kernel
theorem dL_law_450 : decode cL_law 450 = .ok (.aload_n 2, 1) := by decide +kernel
theorem dL_law_451 : decode cL_law 451 = .ok (.aload_n 0, 1) := by decide +kernel
theorem dL_law_452 : decode cL_law 452 = .ok (.iload_n 3, 1) := by decide +kernel
theorem dL_law_453 : decode cL_law 453 = .ok (.iconst 1, 1) := by decide +kernel
theorem dL_law_454 : decode cL_law 454 = .ok (.iadd, 1) := by decide +kernel
theorem dL_law_455 : decode cL_law 455 = .ok (.iaload, 1) := by decide +kernel
theorem dL_law_456 : decode cL_law 456 = .ok (.aload_n 0, 1) := by decide +kernel
theorem dL_law_457 : decode cL_law 457 = .ok (.iload_n 3, 1) := by decide +kernel
theorem dL_law_458 : decode cL_law 458 = .ok (.iconst 2, 1) := by decide +kernel
theorem dL_law_459 : decode cL_law 459 = .ok (.iadd, 1) := by decide +kernel
theorem dL_law_460 : decode cL_law 460 = .ok (.iaload, 1) := by decide +kernel
theorem dL_law_461 : decode cL_law 461 = .ok (.invokevirtual 61, 3) := by decide +kernel
theorem dL_law_464 : decode cL_law 464 = .ok (.if_icmp .eq 48, 3) := by decide +kernel
theorem dL_law_467 : decode cL_law 467 = .ok (.iconst 0, 1) := by decide +kernel
theorem dL_law_468 : decode cL_law 468 = .ok (.ireturn, 1) := by decide +kernel
theorem dL_law_469 : decode cL_law 469 = .ok (.aload_n 1, 1) := by decide +kernel
theorem dL_law_470 : decode cL_law 470 = .ok (.aload_n 0, 1) := by decide +kernel
theorem dL_law_471 : decode cL_law 471 = .ok (.iload_n 3, 1) := by decide +kernel
theorem dL_law_472 : decode cL_law 472 = .ok (.iconst 1, 1) := by decide +kernel
theorem dL_law_473 : decode cL_law 473 = .ok (.iadd, 1) := by decide +kernel
theorem dL_law_474 : decode cL_law 474 = .ok (.iaload, 1) := by decide +kernel
theorem dL_law_475 : decode cL_law 475 = .ok (.aload_n 0, 1) := by decide +kernel
theorem dL_law_476 : decode cL_law 476 = .ok (.iload_n 3, 1) := by decide +kernel
theorem dL_law_477 : decode cL_law 477 = .ok (.iconst 2, 1) := by decide +kernel
theorem dL_law_478 : decode cL_law 478 = .ok (.iadd, 1) := by decide +kernel
theorem dL_law_479 : decode cL_law 479 = .ok (.iaload, 1) := by decide +kernel
theorem dL_law_480 : decode cL_law 480 = .ok (.aload_n 0, 1) := by decide +kernel
theorem dL_law_481 : decode cL_law 481 = .ok (.iload_n 3, 1) := by decide +kernel
theorem dL_law_482 : decode cL_law 482 = .ok (.iconst 3, 1) := by decide +kernel
theorem dL_law_483 : decode cL_law 483 = .ok (.iadd, 1) := by decide +kernel
theorem dL_law_484 : decode cL_law 484 = .ok (.iaload, 1) := by decide +kernel
theorem dL_law_485 : decode cL_law 485 = .ok (.invokevirtual 62, 3) := by decide +kernel
theorem dL_law_488 : decode cL_law 488 = .ok (.aload_n 2, 1) := by decide +kernel
theorem dL_law_489 : decode cL_law 489 = .ok (.aload_n 0, 1) := by decide +kernel
theorem dL_law_490 : decode cL_law 490 = .ok (.iload_n 3, 1) := by decide +kernel
theorem dL_law_491 : decode cL_law 491 = .ok (.iconst 1, 1) := by decide +kernel
theorem dL_law_492 : decode cL_law 492 = .ok (.iadd, 1) := by decide +kernel
theorem dL_law_493 : decode cL_law 493 = .ok (.iaload, 1) := by decide +kernel
theorem dL_law_494 : decode cL_law 494 = .ok (.aload_n 0, 1) := by decide +kernel
theorem dL_law_495 : decode cL_law 495 = .ok (.iload_n 3, 1) := by decide +kernel
theorem dL_law_496 : decode cL_law 496 = .ok (.iconst 2, 1) := by decide +kernel
theorem dL_law_497 : decode cL_law 497 = .ok (.iadd, 1) := by decide +kernel
theorem dL_law_498 : decode cL_law 498 = .ok (.iaload, 1) := by decide +kernel
theorem dL_law_499 : decode cL_law 499 = .ok (.aload_n 0, 1) := by decide +kernel
theorem dL_law_500 : decode cL_law 500 = .ok (.iload_n 3, 1) := by decide +kernel
theorem dL_law_501 : decode cL_law 501 = .ok (.iconst 3, 1) := by decide +kernel
theorem dL_law_502 : decode cL_law 502 = .ok (.iadd, 1) := by decide +kernel
theorem dL_law_503 : decode cL_law 503 = .ok (.iaload, 1) := by decide +kernel
theorem dL_law_504 : decode cL_law 504 = .ok (.invokevirtual 65, 3) := by decide +kernel
theorem dL_law_507 : decode cL_law 507 = .ok (.if_icmp .eq 5, 3) := by decide +kernel
theorem dL_law_510 : decode cL_law 510 = .ok (.iconst 0, 1) := by decide +kernel
theorem dL_law_511 : decode cL_law 511 = .ok (.ireturn, 1) := by decide +kernel
theorem dL_law_512 : decode cL_law 512 = .ok (.iinc 3 5, 3) := by decide +kernel
theorem dL_law_515 : decode cL_law 515 = .ok (.goto (-497), 3) := by decide +kernel
theorem dL_law_518 : decode cL_law 518 = .ok (.iconst 1, 1) := by decide +kernel
theorem dL_law_519 : decode cL_law 519 = .ok (.ireturn, 1) := by decide +kernel
