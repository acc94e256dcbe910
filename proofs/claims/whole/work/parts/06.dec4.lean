theorem dX10_act_138 : decode cX10_act 138 = .ok (.getfield 127, 3) := by decide +kernel
theorem dX10_act_141 : decode cX10_act 141 = .ok (.iconst 1, 1) := by decide +kernel
theorem dX10_act_142 : decode cX10_act 142 = .ok (.isub, 1) := by decide +kernel
theorem dX10_act_143 : decode cX10_act 143 = .ok (.ireturn, 1) := by decide +kernel
theorem dX10_way_0 : decode cX10_way 0 = .ok (.aload_n 0, 1) := by decide +kernel
theorem dX10_way_1 : decode cX10_way 1 = .ok (.iload_n 1, 1) := by decide +kernel
theorem dX10_way_2 : decode cX10_way 2 = .ok (.invokevirtual 139, 3) := by decide +kernel
theorem dX10_way_5 : decode cX10_way 5 = .ok (.ifCond .eq 62, 3) := by decide +kernel
theorem dX10_way_8 : decode cX10_way 8 = .ok (.aload_n 0, 1) := by decide +kernel
theorem dX10_way_9 : decode cX10_way 9 = .ok (.iload_n 3, 1) := by decide +kernel
theorem dX10_way_10 : decode cX10_way 10 = .ok (.invokevirtual 139, 3) := by decide +kernel
theorem dX10_way_13 : decode cX10_way 13 = .ok (.ifCond .eq 54, 3) := by decide +kernel
theorem dX10_way_16 : decode cX10_way 16 = .ok (.iload_n 2, 1) := by decide +kernel
theorem dX10_way_17 : decode cX10_way 17 = .ok (.iconst 0, 1) := by decide +kernel
theorem dX10_way_18 : decode cX10_way 18 = .ok (.aload_n 0, 1) := by decide +kernel
theorem dX10_way_19 : decode cX10_way 19 = .ok (.getfield 7, 3) := by decide +kernel
theorem dX10_way_22 : decode cX10_way 22 = .ok (.iload_n 1, 1) := by decide +kernel
theorem dX10_way_23 : decode cX10_way 23 = .ok (.iaload, 1) := by decide +kernel
theorem dX10_way_24 : decode cX10_way 24 = .ok (.bipush 10, 2) := by decide +kernel
theorem dX10_way_26 : decode cX10_way 26 = .ok (.if_icmp .ne 7, 3) := by decide +kernel
theorem dX10_way_29 : decode cX10_way 29 = .ok (.iconst 1, 1) := by decide +kernel
theorem dX10_way_30 : decode cX10_way 30 = .ok (.goto 4, 3) := by decide +kernel
theorem dX10_way_33 : decode cX10_way 33 = .ok (.iconst 0, 1) := by decide +kernel
theorem dX10_way_34 : decode cX10_way 34 = .ok (.invokestatic 131, 3) := by decide +kernel
theorem dX10_way_37 : decode cX10_way 37 = .ok (.ifCond .eq 30, 3) := by decide +kernel
theorem dX10_way_40 : decode cX10_way 40 = .ok (.iload 4, 2) := by decide +kernel
theorem dX10_way_42 : decode cX10_way 42 = .ok (.iconst 0, 1) := by decide +kernel
theorem dX10_way_43 : decode cX10_way 43 = .ok (.aload_n 0, 1) := by decide +kernel
theorem dX10_way_44 : decode cX10_way 44 = .ok (.getfield 16, 3) := by decide +kernel
theorem dX10_way_47 : decode cX10_way 47 = .ok (.iload_n 3, 1) := by decide +kernel
theorem dX10_way_48 : decode cX10_way 48 = .ok (.iaload, 1) := by decide +kernel
theorem dX10_way_49 : decode cX10_way 49 = .ok (.iconst 1, 1) := by decide +kernel
theorem dX10_way_50 : decode cX10_way 50 = .ok (.isub, 1) := by decide +kernel
theorem dX10_way_51 : decode cX10_way 51 = .ok (.invokestatic 131, 3) := by decide +kernel
theorem dX10_way_54 : decode cX10_way 54 = .ok (.ifCond .eq 13, 3) := by decide +kernel
theorem dX10_way_57 : decode cX10_way 57 = .ok (.aload_n 0, 1) := by decide +kernel
theorem dX10_way_58 : decode cX10_way 58 = .ok (.getfield 143, 3) := by decide +kernel
theorem dX10_way_61 : decode cX10_way 61 = .ok (.sipush 300, 3) := by decide +kernel
theorem dX10_way_64 : decode cX10_way 64 = .ok (.if_icmp .ne 5, 3) := by decide +kernel
theorem dX10_way_67 : decode cX10_way 67 = .ok (.iconst (-1), 1) := by decide +kernel
theorem dX10_way_68 : decode cX10_way 68 = .ok (.ireturn, 1) := by decide +kernel
theorem dX10_way_69 : decode cX10_way 69 = .ok (.aload_n 0, 1) := by decide +kernel
theorem dX10_way_70 : decode cX10_way 70 = .ok (.getfield 19, 3) := by decide +kernel
theorem dX10_way_73 : decode cX10_way 73 = .ok (.aload_n 0, 1) := by decide +kernel
theorem dX10_way_74 : decode cX10_way 74 = .ok (.getfield 143, 3) := by decide +kernel
theorem dX10_way_77 : decode cX10_way 77 = .ok (.iload_n 1, 1) := by decide +kernel
theorem dX10_way_78 : decode cX10_way 78 = .ok (.iastore, 1) := by decide +kernel
theorem dX10_way_79 : decode cX10_way 79 = .ok (.aload_n 0, 1) := by decide +kernel
theorem dX10_way_80 : decode cX10_way 80 = .ok (.getfield 22, 3) := by decide +kernel
theorem dX10_way_83 : decode cX10_way 83 = .ok (.aload_n 0, 1) := by decide +kernel
theorem dX10_way_84 : decode cX10_way 84 = .ok (.getfield 143, 3) := by decide +kernel
theorem dX10_way_87 : decode cX10_way 87 = .ok (.iload_n 2, 1) := by decide +kernel
theorem dX10_way_88 : decode cX10_way 88 = .ok (.iastore, 1) := by decide +kernel
theorem dX10_way_89 : decode cX10_way 89 = .ok (.aload_n 0, 1) := by decide +kernel
theorem dX10_way_90 : decode cX10_way 90 = .ok (.getfield 25, 3) := by decide +kernel
theorem dX10_way_93 : decode cX10_way 93 = .ok (.aload_n 0, 1) := by decide +kernel
theorem dX10_way_94 : decode cX10_way 94 = .ok (.getfield 143, 3) := by decide +kernel
theorem dX10_way_97 : decode cX10_way 97 = .ok (.iload_n 3, 1) := by decide +kernel
theorem dX10_way_98 : decode cX10_way 98 = .ok (.iastore, 1) := by decide +kernel
theorem dX10_way_99 : decode cX10_way 99 = .ok (.aload_n 0, 1) := by decide +kernel
theorem dX10_way_100 : decode cX10_way 100 = .ok (.getfield 28, 3) := by decide +kernel
theorem dX10_way_103 : decode cX10_way 103 = .ok (.aload_n 0, 1) := by decide +kernel
theorem dX10_way_104 : decode cX10_way 104 = .ok (.getfield 143, 3) := by decide +kernel
theorem dX10_way_107 : decode cX10_way 107 = .ok (.iload 4, 2) := by decide +kernel
theorem dX10_way_109 : decode cX10_way 109 = .ok (.iastore, 1) := by decide +kernel
theorem dX10_way_110 : decode cX10_way 110 = .ok (.aload_n 0, 1) := by decide +kernel
theorem dX10_way_111 : decode cX10_way 111 = .ok (.dup, 1) := by decide +kernel
theorem dX10_way_112 : decode cX10_way 112 = .ok (.getfield 143, 3) := by decide +kernel
theorem dX10_way_115 : decode cX10_way 115 = .ok (.iconst 1, 1) := by decide +kernel
theorem dX10_way_116 : decode cX10_way 116 = .ok (.iadd, 1) := by decide +kernel
theorem dX10_way_117 : decode cX10_way 117 = .ok (.putfield 143, 3) := by decide +kernel
theorem dX10_way_120 : decode cX10_way 120 = .ok (.aload_n 0, 1) := by decide +kernel
theorem dX10_way_121 : decode cX10_way 121 = .ok (.getfield 143, 3) := by decide +kernel
theorem dX10_way_124 : decode cX10_way 124 = .ok (.iconst 1, 1) := by decide +kernel
theorem dX10_way_125 : decode cX10_way 125 = .ok (.isub, 1) := by decide +kernel
theorem dX10_way_126 : decode cX10_way 126 = .ok (.ireturn, 1) := by decide +kernel
theorem dX10_token_0 : decode cX10_token 0 = .ok (.aload_n 0, 1) := by decide +kernel
theorem dX10_token_1 : decode cX10_token 1 = .ok (.iload_n 1, 1) := by decide +kernel
theorem dX10_token_2 : decode cX10_token 2 = .ok (.invokevirtual 139, 3) := by decide +kernel
theorem dX10_token_5 : decode cX10_token 5 = .ok (.ifCond .eq 28, 3) := by decide +kernel
theorem dX10_token_8 : decode cX10_token 8 = .ok (.iload_n 2, 1) := by decide +kernel
theorem dX10_token_9 : decode cX10_token 9 = .ok (.iconst 0, 1) := by decide +kernel
theorem dX10_token_10 : decode cX10_token 10 = .ok (.aload_n 0, 1) := by decide +kernel
theorem dX10_token_11 : decode cX10_token 11 = .ok (.getfield 16, 3) := by decide +kernel
theorem dX10_token_14 : decode cX10_token 14 = .ok (.iload_n 1, 1) := by decide +kernel
theorem dX10_token_15 : decode cX10_token 15 = .ok (.iaload, 1) := by decide +kernel
theorem dX10_token_16 : decode cX10_token 16 = .ok (.iconst 1, 1) := by decide +kernel
theorem dX10_token_17 : decode cX10_token 17 = .ok (.isub, 1) := by decide +kernel
theorem dX10_token_18 : decode cX10_token 18 = .ok (.invokestatic 131, 3) := by decide +kernel
theorem dX10_token_21 : decode cX10_token 21 = .ok (.ifCond .eq 12, 3) := by decide +kernel
theorem dX10_token_24 : decode cX10_token 24 = .ok (.aload_n 0, 1) := by decide +kernel
theorem dX10_token_25 : decode cX10_token 25 = .ok (.getfield 146, 3) := by decide +kernel
theorem dX10_token_28 : decode cX10_token 28 = .ok (.bipush 40, 2) := by decide +kernel
theorem dX10_token_30 : decode cX10_token 30 = .ok (.if_icmp .ne 5, 3) := by decide +kernel
theorem dX10_token_33 : decode cX10_token 33 = .ok (.iconst (-1), 1) := by decide +kernel
theorem dX10_token_34 : decode cX10_token 34 = .ok (.ireturn, 1) := by decide +kernel
theorem dX10_token_35 : decode cX10_token 35 = .ok (.aload_n 0, 1) := by decide +kernel
theorem dX10_token_36 : decode cX10_token 36 = .ok (.getfield 31, 3) := by decide +kernel
theorem dX10_token_39 : decode cX10_token 39 = .ok (.aload_n 0, 1) := by decide +kernel
theorem dX10_token_40 : decode cX10_token 40 = .ok (.getfield 146, 3) := by decide +kernel
theorem dX10_token_43 : decode cX10_token 43 = .ok (.iload_n 1, 1) := by decide +kernel
theorem dX10_token_44 : decode cX10_token 44 = .ok (.iastore, 1) := by decide +kernel
theorem dX10_token_45 : decode cX10_token 45 = .ok (.aload_n 0, 1) := by decide +kernel
theorem dX10_token_46 : decode cX10_token 46 = .ok (.getfield 34, 3) := by decide +kernel
theorem dX10_token_49 : decode cX10_token 49 = .ok (.aload_n 0, 1) := by decide +kernel
theorem dX10_token_50 : decode cX10_token 50 = .ok (.getfield 146, 3) := by decide +kernel
theorem dX10_token_53 : decode cX10_token 53 = .ok (.iload_n 2, 1) := by decide +kernel
theorem dX10_token_54 : decode cX10_token 54 = .ok (.iastore, 1) := by decide +kernel
theorem dX10_token_55 : decode cX10_token 55 = .ok (.aload_n 0, 1) := by decide +kernel
theorem dX10_token_56 : decode cX10_token 56 = .ok (.getfield 37, 3) := by decide +kernel
theorem dX10_token_59 : decode cX10_token 59 = .ok (.aload_n 0, 1) := by decide +kernel
theorem dX10_token_60 : decode cX10_token 60 = .ok (.getfield 146, 3) := by decide +kernel
theorem dX10_token_63 : decode cX10_token 63 = .ok (.iload_n 3, 1) := by decide +kernel
theorem dX10_token_64 : decode cX10_token 64 = .ok (.iastore, 1) := by decide +kernel
theorem dX10_token_65 : decode cX10_token 65 = .ok (.aload_n 0, 1) := by decide +kernel
theorem dX10_token_66 : decode cX10_token 66 = .ok (.dup, 1) := by decide +kernel
theorem dX10_token_67 : decode cX10_token 67 = .ok (.getfield 146, 3) := by decide +kernel
theorem dX10_token_70 : decode cX10_token 70 = .ok (.iconst 1, 1) := by decide +kernel
theorem dX10_token_71 : decode cX10_token 71 = .ok (.iadd, 1) := by decide +kernel
theorem dX10_token_72 : decode cX10_token 72 = .ok (.putfield 146, 3) := by decide +kernel
theorem dX10_token_75 : decode cX10_token 75 = .ok (.aload_n 0, 1) := by decide +kernel
theorem dX10_token_76 : decode cX10_token 76 = .ok (.getfield 146, 3) := by decide +kernel
theorem dX10_token_79 : decode cX10_token 79 = .ok (.ireturn, 1) := by decide +kernel
theorem dX10_clear_0 : decode cX10_clear 0 = .ok (.iload_n 1, 1) := by decide +kernel
theorem dX10_clear_1 : decode cX10_clear 1 = .ok (.iconst 0, 1) := by decide +kernel
theorem dX10_clear_2 : decode cX10_clear 2 = .ok (.iconst 2, 1) := by decide +kernel
theorem dX10_clear_3 : decode cX10_clear 3 = .ok (.invokestatic 131, 3) := by decide +kernel
theorem dX10_clear_6 : decode cX10_clear 6 = .ok (.ifCond .ne 5, 3) := by decide +kernel
theorem dX10_clear_9 : decode cX10_clear 9 = .ok (.iconst 0, 1) := by decide +kernel
theorem dX10_clear_10 : decode cX10_clear 10 = .ok (.ireturn, 1) := by decide +kernel
theorem dX10_clear_11 : decode cX10_clear 11 = .ok (.aload_n 0, 1) := by decide +kernel
theorem dX10_clear_12 : decode cX10_clear 12 = .ok (.iconst 0, 1) := by decide +kernel
theorem dX10_clear_13 : decode cX10_clear 13 = .ok (.putfield 146, 3) := by decide +kernel
theorem dX10_clear_16 : decode cX10_clear 16 = .ok (.iload_n 1, 1) := by decide +kernel
theorem dX10_clear_17 : decode cX10_clear 17 = .ok (.ifCond .le 8, 3) := by decide +kernel
theorem dX10_clear_20 : decode cX10_clear 20 = .ok (.aload_n 0, 1) := by decide +kernel
theorem dX10_clear_21 : decode cX10_clear 21 = .ok (.iconst 0, 1) := by decide +kernel
theorem dX10_clear_22 : decode cX10_clear 22 = .ok (.putfield 143, 3) := by decide +kernel
theorem dX10_clear_25 : decode cX10_clear 25 = .ok (.iload_n 1, 1) := by decide +kernel
theorem dX10_clear_26 : decode cX10_clear 26 = .ok (.iconst 1, 1) := by decide +kernel
theorem dX10_clear_27 : decode cX10_clear 27 = .ok (.if_icmp .le 8, 3) := by decide +kernel
theorem dX10_clear_30 : decode cX10_clear 30 = .ok (.aload_n 0, 1) := by decide +kernel
theorem dX10_clear_31 : decode cX10_clear 31 = .ok (.iconst 0, 1) := by decide +kernel
theorem dX10_clear_32 : decode cX10_clear 32 = .ok (.putfield 127, 3) := by decide +kernel
theorem dX10_clear_35 : decode cX10_clear 35 = .ok (.aload_n 0, 1) := by decide +kernel
theorem dX10_clear_36 : decode cX10_clear 36 = .ok (.iconst 0, 1) := by decide +kernel
theorem dX10_clear_37 : decode cX10_clear 37 = .ok (.putfield 149, 3) := by decide +kernel
theorem dX10_clear_40 : decode cX10_clear 40 = .ok (.iconst 1, 1) := by decide +kernel
theorem dX10_clear_41 : decode cX10_clear 41 = .ok (.ireturn, 1) := by decide +kernel
theorem dX10_stops_0 : decode cX10_stops 0 = .ok (.aload_n 0, 1) := by decide +kernel
theorem dX10_stops_1 : decode cX10_stops 1 = .ok (.iload_n 1, 1) := by decide +kernel
theorem dX10_stops_2 : decode cX10_stops 2 = .ok (.putfield 153, 3) := by decide +kernel
theorem dX10_stops_5 : decode cX10_stops 5 = .ok (.aload_n 0, 1) := by decide +kernel
theorem dX10_stops_6 : decode cX10_stops 6 = .ok (.iload_n 2, 1) := by decide +kernel
theorem dX10_stops_7 : decode cX10_stops 7 = .ok (.putfield 156, 3) := by decide +kernel
theorem dX10_stops_10 : decode cX10_stops 10 = .ok (.aload_n 0, 1) := by decide +kernel
theorem dX10_stops_11 : decode cX10_stops 11 = .ok (.iconst 1, 1) := by decide +kernel
theorem dX10_stops_12 : decode cX10_stops 12 = .ok (.putfield 159, 3) := by decide +kernel
theorem dX10_stops_15 : decode cX10_stops 15 = .ok (.iconst 0, 1) := by decide +kernel
theorem dX10_stops_16 : decode cX10_stops 16 = .ok (.ireturn, 1) := by decide +kernel
theorem dX10_colour_0 : decode cX10_colour 0 = .ok (.iconst 0, 1) := by decide +kernel
theorem dX10_colour_1 : decode cX10_colour 1 = .ok (.istore 5, 2) := by decide +kernel
theorem dX10_colour_3 : decode cX10_colour 3 = .ok (.iload 5, 2) := by decide +kernel
theorem dX10_colour_5 : decode cX10_colour 5 = .ok (.aload_n 0, 1) := by decide +kernel
theorem dX10_colour_6 : decode cX10_colour 6 = .ok (.getfield 162, 3) := by decide +kernel
theorem dX10_colour_9 : decode cX10_colour 9 = .ok (.if_icmp .ge 57, 3) := by decide +kernel
theorem dX10_colour_12 : decode cX10_colour 12 = .ok (.aload_n 0, 1) := by decide +kernel
theorem dX10_colour_13 : decode cX10_colour 13 = .ok (.getfield 40, 3) := by decide +kernel
theorem dX10_colour_16 : decode cX10_colour 16 = .ok (.iload 5, 2) := by decide +kernel
theorem dX10_colour_18 : decode cX10_colour 18 = .ok (.iaload, 1) := by decide +kernel
theorem dX10_colour_19 : decode cX10_colour 19 = .ok (.iload_n 1, 1) := by decide +kernel
theorem dX10_colour_20 : decode cX10_colour 20 = .ok (.if_icmp .ne 40, 3) := by decide +kernel
theorem dX10_colour_23 : decode cX10_colour 23 = .ok (.aload_n 0, 1) := by decide +kernel
theorem dX10_colour_24 : decode cX10_colour 24 = .ok (.getfield 43, 3) := by decide +kernel
theorem dX10_colour_27 : decode cX10_colour 27 = .ok (.iload 5, 2) := by decide +kernel
theorem dX10_colour_29 : decode cX10_colour 29 = .ok (.iaload, 1) := by decide +kernel
theorem dX10_colour_30 : decode cX10_colour 30 = .ok (.iload_n 2, 1) := by decide +kernel
theorem dX10_colour_31 : decode cX10_colour 31 = .ok (.if_icmp .ne 29, 3) := by decide +kernel
theorem dX10_colour_34 : decode cX10_colour 34 = .ok (.aload_n 0, 1) := by decide +kernel
theorem dX10_colour_35 : decode cX10_colour 35 = .ok (.getfield 46, 3) := by decide +kernel
theorem dX10_colour_38 : decode cX10_colour 38 = .ok (.iload 5, 2) := by decide +kernel
theorem dX10_colour_40 : decode cX10_colour 40 = .ok (.iaload, 1) := by decide +kernel
theorem dX10_colour_41 : decode cX10_colour 41 = .ok (.iload_n 3, 1) := by decide +kernel
theorem dX10_colour_42 : decode cX10_colour 42 = .ok (.if_icmp .ne 18, 3) := by decide +kernel
theorem dX10_colour_45 : decode cX10_colour 45 = .ok (.aload_n 0, 1) := by decide +kernel
theorem dX10_colour_46 : decode cX10_colour 46 = .ok (.getfield 49, 3) := by decide +kernel
theorem dX10_colour_49 : decode cX10_colour 49 = .ok (.iload 5, 2) := by decide +kernel
theorem dX10_colour_51 : decode cX10_colour 51 = .ok (.iaload, 1) := by decide +kernel
theorem dX10_colour_52 : decode cX10_colour 52 = .ok (.iload 4, 2) := by decide +kernel
theorem dX10_colour_54 : decode cX10_colour 54 = .ok (.if_icmp .ne 6, 3) := by decide +kernel
theorem dX10_colour_57 : decode cX10_colour 57 = .ok (.iload 5, 2) := by decide +kernel
theorem dX10_colour_59 : decode cX10_colour 59 = .ok (.ireturn, 1) := by decide +kernel
theorem dX10_colour_60 : decode cX10_colour 60 = .ok (.iinc 5 1, 3) := by decide +kernel
theorem dX10_colour_63 : decode cX10_colour 63 = .ok (.goto (-60), 3) := by decide +kernel
theorem dX10_colour_66 : decode cX10_colour 66 = .ok (.aload_n 0, 1) := by decide +kernel
theorem dX10_colour_67 : decode cX10_colour 67 = .ok (.getfield 162, 3) := by decide +kernel
theorem dX10_colour_70 : decode cX10_colour 70 = .ok (.sipush 600, 3) := by decide +kernel
theorem dX10_colour_73 : decode cX10_colour 73 = .ok (.if_icmp .ne 12, 3) := by decide +kernel
theorem dX10_colour_76 : decode cX10_colour 76 = .ok (.aload_n 0, 1) := by decide +kernel
theorem dX10_colour_77 : decode cX10_colour 77 = .ok (.iconst 2, 1) := by decide +kernel
theorem dX10_colour_78 : decode cX10_colour 78 = .ok (.iconst (-1), 1) := by decide +kernel
theorem dX10_colour_79 : decode cX10_colour 79 = .ok (.invokevirtual 165, 3) := by decide +kernel
theorem dX10_colour_82 : decode cX10_colour 82 = .ok (.pop, 1) := by decide +kernel
theorem dX10_colour_83 : decode cX10_colour 83 = .ok (.iconst (-1), 1) := by decide +kernel
theorem dX10_colour_84 : decode cX10_colour 84 = .ok (.ireturn, 1) := by decide +kernel
theorem dX10_colour_85 : decode cX10_colour 85 = .ok (.aload_n 0, 1) := by decide +kernel
theorem dX10_colour_86 : decode cX10_colour 86 = .ok (.getfield 40, 3) := by decide +kernel
theorem dX10_colour_89 : decode cX10_colour 89 = .ok (.aload_n 0, 1) := by decide +kernel
theorem dX10_colour_90 : decode cX10_colour 90 = .ok (.getfield 162, 3) := by decide +kernel
theorem dX10_colour_93 : decode cX10_colour 93 = .ok (.iload_n 1, 1) := by decide +kernel
theorem dX10_colour_94 : decode cX10_colour 94 = .ok (.iastore, 1) := by decide +kernel
theorem dX10_colour_95 : decode cX10_colour 95 = .ok (.aload_n 0, 1) := by decide +kernel
theorem dX10_colour_96 : decode cX10_colour 96 = .ok (.getfield 43, 3) := by decide +kernel
theorem dX10_colour_99 : decode cX10_colour 99 = .ok (.aload_n 0, 1) := by decide +kernel
theorem dX10_colour_100 : decode cX10_colour 100 = .ok (.getfield 162, 3) := by decide +kernel
theorem dX10_colour_103 : decode cX10_colour 103 = .ok (.iload_n 2, 1) := by decide +kernel
theorem dX10_colour_104 : decode cX10_colour 104 = .ok (.iastore, 1) := by decide +kernel
theorem dX10_colour_105 : decode cX10_colour 105 = .ok (.aload_n 0, 1) := by decide +kernel
theorem dX10_colour_106 : decode cX10_colour 106 = .ok (.getfield 46, 3) := by decide +kernel
theorem dX10_colour_109 : decode cX10_colour 109 = .ok (.aload_n 0, 1) := by decide +kernel
theorem dX10_colour_110 : decode cX10_colour 110 = .ok (.getfield 162, 3) := by decide +kernel
theorem dX10_colour_113 : decode cX10_colour 113 = .ok (.iload_n 3, 1) := by decide +kernel
theorem dX10_colour_114 : decode cX10_colour 114 = .ok (.iastore, 1) := by decide +kernel
theorem dX10_colour_115 : decode cX10_colour 115 = .ok (.aload_n 0, 1) := by decide +kernel
theorem dX10_colour_116 : decode cX10_colour 116 = .ok (.getfield 49, 3) := by decide +kernel
theorem dX10_colour_119 : decode cX10_colour 119 = .ok (.aload_n 0, 1) := by decide +kernel
theorem dX10_colour_120 : decode cX10_colour 120 = .ok (.getfield 162, 3) := by decide +kernel
theorem dX10_colour_123 : decode cX10_colour 123 = .ok (.iload 4, 2) := by decide +kernel
theorem dX10_colour_125 : decode cX10_colour 125 = .ok (.iastore, 1) := by decide +kernel
theorem dX10_colour_126 : decode cX10_colour 126 = .ok (.aload_n 0, 1) := by decide +kernel
theorem dX10_colour_127 : decode cX10_colour 127 = .ok (.dup, 1) := by decide +kernel
theorem dX10_colour_128 : decode cX10_colour 128 = .ok (.getfield 162, 3) := by decide +kernel
theorem dX10_colour_131 : decode cX10_colour 131 = .ok (.iconst 1, 1) := by decide +kernel
theorem dX10_colour_132 : decode cX10_colour 132 = .ok (.iadd, 1) := by decide +kernel
theorem dX10_colour_133 : decode cX10_colour 133 = .ok (.putfield 162, 3) := by decide +kernel
theorem dX10_colour_136 : decode cX10_colour 136 = .ok (.aload_n 0, 1) := by decide +kernel
theorem dX10_colour_137 : decode cX10_colour 137 = .ok (.getfield 162, 3) := by decide +kernel
theorem dX10_colour_140 : decode cX10_colour 140 = .ok (.iconst 1, 1) := by decide +kernel
theorem dX10_colour_141 : decode cX10_colour 141 = .ok (.isub, 1) := by decide +kernel
theorem dX10_colour_142 : decode cX10_colour 142 = .ok (.ireturn, 1) := by decide +kernel
theorem dX10_pair_0 : decode cX10_pair 0 = .ok (.aload_n 0, 1) := by decide +kernel
theorem dX10_pair_1 : decode cX10_pair 1 = .ok (.getfield 76, 3) := by decide +kernel
theorem dX10_pair_4 : decode cX10_pair 4 = .ok (.iload_n 1, 1) := by decide +kernel
theorem dX10_pair_5 : decode cX10_pair 5 = .ok (.iaload, 1) := by decide +kernel
theorem dX10_pair_6 : decode cX10_pair 6 = .ok (.istore_n 3, 1) := by decide +kernel
theorem dX10_pair_7 : decode cX10_pair 7 = .ok (.iload_n 3, 1) := by decide +kernel
theorem dX10_pair_8 : decode cX10_pair 8 = .ok (.ifCond .lt 25, 3) := by decide +kernel
theorem dX10_pair_11 : decode cX10_pair 11 = .ok (.aload_n 0, 1) := by decide +kernel
theorem dX10_pair_12 : decode cX10_pair 12 = .ok (.getfield 55, 3) := by decide +kernel
theorem dX10_pair_15 : decode cX10_pair 15 = .ok (.iload_n 3, 1) := by decide +kernel
theorem dX10_pair_16 : decode cX10_pair 16 = .ok (.iaload, 1) := by decide +kernel
theorem dX10_pair_17 : decode cX10_pair 17 = .ok (.iload_n 2, 1) := by decide +kernel
theorem dX10_pair_18 : decode cX10_pair 18 = .ok (.if_icmp .ne 5, 3) := by decide +kernel
theorem dX10_pair_21 : decode cX10_pair 21 = .ok (.iload_n 3, 1) := by decide +kernel
theorem dX10_pair_22 : decode cX10_pair 22 = .ok (.ireturn, 1) := by decide +kernel
theorem dX10_pair_23 : decode cX10_pair 23 = .ok (.aload_n 0, 1) := by decide +kernel
theorem dX10_pair_24 : decode cX10_pair 24 = .ok (.getfield 64, 3) := by decide +kernel
theorem dX10_pair_27 : decode cX10_pair 27 = .ok (.iload_n 3, 1) := by decide +kernel
theorem dX10_pair_28 : decode cX10_pair 28 = .ok (.iaload, 1) := by decide +kernel
theorem dX10_pair_29 : decode cX10_pair 29 = .ok (.istore_n 3, 1) := by decide +kernel
theorem dX10_pair_30 : decode cX10_pair 30 = .ok (.goto (-23), 3) := by decide +kernel
theorem dX10_pair_33 : decode cX10_pair 33 = .ok (.aload_n 0, 1) := by decide +kernel
theorem dX10_pair_34 : decode cX10_pair 34 = .ok (.getfield 169, 3) := by decide +kernel
theorem dX10_pair_37 : decode cX10_pair 37 = .ok (.sipush 3000, 3) := by decide +kernel
theorem dX10_pair_40 : decode cX10_pair 40 = .ok (.if_icmp .ne 12, 3) := by decide +kernel
theorem dX10_pair_43 : decode cX10_pair 43 = .ok (.aload_n 0, 1) := by decide +kernel
theorem dX10_pair_44 : decode cX10_pair 44 = .ok (.iconst 2, 1) := by decide +kernel
theorem dX10_pair_45 : decode cX10_pair 45 = .ok (.iconst (-1), 1) := by decide +kernel
theorem dX10_pair_46 : decode cX10_pair 46 = .ok (.invokevirtual 165, 3) := by decide +kernel
theorem dX10_pair_49 : decode cX10_pair 49 = .ok (.pop, 1) := by decide +kernel
theorem dX10_pair_50 : decode cX10_pair 50 = .ok (.iconst (-1), 1) := by decide +kernel
theorem dX10_pair_51 : decode cX10_pair 51 = .ok (.ireturn, 1) := by decide +kernel
theorem dX10_pair_52 : decode cX10_pair 52 = .ok (.aload_n 0, 1) := by decide +kernel
theorem dX10_pair_53 : decode cX10_pair 53 = .ok (.getfield 169, 3) := by decide +kernel
theorem dX10_pair_56 : decode cX10_pair 56 = .ok (.istore_n 3, 1) := by decide +kernel
theorem dX10_pair_57 : decode cX10_pair 57 = .ok (.aload_n 0, 1) := by decide +kernel
theorem dX10_pair_58 : decode cX10_pair 58 = .ok (.getfield 52, 3) := by decide +kernel
theorem dX10_pair_61 : decode cX10_pair 61 = .ok (.iload_n 3, 1) := by decide +kernel
theorem dX10_pair_62 : decode cX10_pair 62 = .ok (.iload_n 1, 1) := by decide +kernel
theorem dX10_pair_63 : decode cX10_pair 63 = .ok (.iastore, 1) := by decide +kernel
theorem dX10_pair_64 : decode cX10_pair 64 = .ok (.aload_n 0, 1) := by decide +kernel
theorem dX10_pair_65 : decode cX10_pair 65 = .ok (.getfield 55, 3) := by decide +kernel
theorem dX10_pair_68 : decode cX10_pair 68 = .ok (.iload_n 3, 1) := by decide +kernel
theorem dX10_pair_69 : decode cX10_pair 69 = .ok (.iload_n 2, 1) := by decide +kernel
theorem dX10_pair_70 : decode cX10_pair 70 = .ok (.iastore, 1) := by decide +kernel
theorem dX10_pair_71 : decode cX10_pair 71 = .ok (.aload_n 0, 1) := by decide +kernel
theorem dX10_pair_72 : decode cX10_pair 72 = .ok (.getfield 58, 3) := by decide +kernel
theorem dX10_pair_75 : decode cX10_pair 75 = .ok (.iload_n 3, 1) := by decide +kernel
theorem dX10_pair_76 : decode cX10_pair 76 = .ok (.iconst 0, 1) := by decide +kernel
theorem dX10_pair_77 : decode cX10_pair 77 = .ok (.iastore, 1) := by decide +kernel
theorem dX10_pair_78 : decode cX10_pair 78 = .ok (.aload_n 0, 1) := by decide +kernel
theorem dX10_pair_79 : decode cX10_pair 79 = .ok (.getfield 61, 3) := by decide +kernel
theorem dX10_pair_82 : decode cX10_pair 82 = .ok (.iload_n 3, 1) := by decide +kernel
theorem dX10_pair_83 : decode cX10_pair 83 = .ok (.iconst 0, 1) := by decide +kernel
theorem dX10_pair_84 : decode cX10_pair 84 = .ok (.iastore, 1) := by decide +kernel
theorem dX10_pair_85 : decode cX10_pair 85 = .ok (.aload_n 0, 1) := by decide +kernel
theorem dX10_pair_86 : decode cX10_pair 86 = .ok (.getfield 64, 3) := by decide +kernel
theorem dX10_pair_89 : decode cX10_pair 89 = .ok (.iload_n 3, 1) := by decide +kernel
theorem dX10_pair_90 : decode cX10_pair 90 = .ok (.aload_n 0, 1) := by decide +kernel
theorem dX10_pair_91 : decode cX10_pair 91 = .ok (.getfield 76, 3) := by decide +kernel
theorem dX10_pair_94 : decode cX10_pair 94 = .ok (.iload_n 1, 1) := by decide +kernel
theorem dX10_pair_95 : decode cX10_pair 95 = .ok (.iaload, 1) := by decide +kernel
theorem dX10_pair_96 : decode cX10_pair 96 = .ok (.iastore, 1) := by decide +kernel
theorem dX10_pair_97 : decode cX10_pair 97 = .ok (.aload_n 0, 1) := by decide +kernel
theorem dX10_pair_98 : decode cX10_pair 98 = .ok (.getfield 76, 3) := by decide +kernel
theorem dX10_pair_101 : decode cX10_pair 101 = .ok (.iload_n 1, 1) := by decide +kernel
theorem dX10_pair_102 : decode cX10_pair 102 = .ok (.iload_n 3, 1) := by decide +kernel
theorem dX10_pair_103 : decode cX10_pair 103 = .ok (.iastore, 1) := by decide +kernel
theorem dX10_pair_104 : decode cX10_pair 104 = .ok (.aload_n 0, 1) := by decide +kernel
theorem dX10_pair_105 : decode cX10_pair 105 = .ok (.dup, 1) := by decide +kernel
theorem dX10_pair_106 : decode cX10_pair 106 = .ok (.getfield 169, 3) := by decide +kernel
theorem dX10_pair_109 : decode cX10_pair 109 = .ok (.iconst 1, 1) := by decide +kernel
theorem dX10_pair_110 : decode cX10_pair 110 = .ok (.iadd, 1) := by decide +kernel
theorem dX10_pair_111 : decode cX10_pair 111 = .ok (.putfield 169, 3) := by decide +kernel
theorem dX10_pair_114 : decode cX10_pair 114 = .ok (.iload_n 3, 1) := by decide +kernel
theorem dX10_pair_115 : decode cX10_pair 115 = .ok (.ireturn, 1) := by decide +kernel
theorem dX10_comes_0 : decode cX10_comes 0 = .ok (.aload_n 0, 1) := by decide +kernel
theorem dX10_comes_1 : decode cX10_comes 1 = .ok (.iload_n 1, 1) := by decide +kernel
theorem dX10_comes_2 : decode cX10_comes 2 = .ok (.iload_n 3, 1) := by decide +kernel
theorem dX10_comes_3 : decode cX10_comes 3 = .ok (.invokevirtual 172, 3) := by decide +kernel
theorem dX10_comes_6 : decode cX10_comes 6 = .ok (.istore 7, 2) := by decide +kernel
theorem dX10_comes_8 : decode cX10_comes 8 = .ok (.iload 7, 2) := by decide +kernel
theorem dX10_comes_10 : decode cX10_comes 10 = .ok (.ifCond .ge 5, 3) := by decide +kernel
theorem dX10_comes_13 : decode cX10_comes 13 = .ok (.iconst 0, 1) := by decide +kernel
theorem dX10_comes_14 : decode cX10_comes 14 = .ok (.ireturn, 1) := by decide +kernel
theorem dX10_comes_15 : decode cX10_comes 15 = .ok (.aload_n 0, 1) := by decide +kernel
theorem dX10_comes_16 : decode cX10_comes 16 = .ok (.getfield 58, 3) := by decide +kernel
theorem dX10_comes_19 : decode cX10_comes 19 = .ok (.iload 7, 2) := by decide +kernel
theorem dX10_comes_21 : decode cX10_comes 21 = .ok (.iaload, 1) := by decide +kernel
theorem dX10_comes_22 : decode cX10_comes 22 = .ok (.iload_n 2, 1) := by decide +kernel
theorem dX10_comes_23 : decode cX10_comes 23 = .ok (.ishr, 1) := by decide +kernel
theorem dX10_comes_24 : decode cX10_comes 24 = .ok (.iconst 1, 1) := by decide +kernel
theorem dX10_comes_25 : decode cX10_comes 25 = .ok (.iand, 1) := by decide +kernel
theorem dX10_comes_26 : decode cX10_comes 26 = .ok (.iconst 1, 1) := by decide +kernel
theorem dX10_comes_27 : decode cX10_comes 27 = .ok (.if_icmp .ne 10, 3) := by decide +kernel
theorem dX10_comes_30 : decode cX10_comes 30 = .ok (.aload_n 0, 1) := by decide +kernel
theorem dX10_comes_31 : decode cX10_comes 31 = .ok (.iconst 1, 1) := by decide +kernel
theorem dX10_comes_32 : decode cX10_comes 32 = .ok (.iload_n 1, 1) := by decide +kernel
theorem dX10_comes_33 : decode cX10_comes 33 = .ok (.invokevirtual 165, 3) := by decide +kernel
theorem dX10_comes_36 : decode cX10_comes 36 = .ok (.ireturn, 1) := by decide +kernel
theorem dX10_comes_37 : decode cX10_comes 37 = .ok (.aload_n 0, 1) := by decide +kernel
theorem dX10_comes_38 : decode cX10_comes 38 = .ok (.getfield 58, 3) := by decide +kernel
theorem dX10_comes_41 : decode cX10_comes 41 = .ok (.iload 7, 2) := by decide +kernel
theorem dX10_comes_43 : decode cX10_comes 43 = .ok (.dup2, 1) := by decide +kernel
theorem dX10_comes_44 : decode cX10_comes 44 = .ok (.iaload, 1) := by decide +kernel
theorem dX10_comes_45 : decode cX10_comes 45 = .ok (.iconst 1, 1) := by decide +kernel
theorem dX10_comes_46 : decode cX10_comes 46 = .ok (.iload_n 2, 1) := by decide +kernel
theorem dX10_comes_47 : decode cX10_comes 47 = .ok (.ishl, 1) := by decide +kernel
theorem dX10_comes_48 : decode cX10_comes 48 = .ok (.ior, 1) := by decide +kernel
theorem dX10_comes_49 : decode cX10_comes 49 = .ok (.iastore, 1) := by decide +kernel
theorem dX10_comes_50 : decode cX10_comes 50 = .ok (.aload_n 0, 1) := by decide +kernel
theorem dX10_comes_51 : decode cX10_comes 51 = .ok (.getfield 67, 3) := by decide +kernel
theorem dX10_comes_54 : decode cX10_comes 54 = .ok (.iconst 3, 1) := by decide +kernel
theorem dX10_comes_55 : decode cX10_comes 55 = .ok (.iload 7, 2) := by decide +kernel
theorem dX10_comes_57 : decode cX10_comes 57 = .ok (.imul, 1) := by decide +kernel
theorem dX10_comes_58 : decode cX10_comes 58 = .ok (.iload_n 2, 1) := by decide +kernel
theorem dX10_comes_59 : decode cX10_comes 59 = .ok (.iadd, 1) := by decide +kernel
theorem dX10_comes_60 : decode cX10_comes 60 = .ok (.iload 4, 2) := by decide +kernel
theorem dX10_comes_62 : decode cX10_comes 62 = .ok (.iastore, 1) := by decide +kernel
theorem dX10_comes_63 : decode cX10_comes 63 = .ok (.aload_n 0, 1) := by decide +kernel
theorem dX10_comes_64 : decode cX10_comes 64 = .ok (.getfield 70, 3) := by decide +kernel
theorem dX10_comes_67 : decode cX10_comes 67 = .ok (.iconst 3, 1) := by decide +kernel
theorem dX10_comes_68 : decode cX10_comes 68 = .ok (.iload 7, 2) := by decide +kernel
theorem dX10_comes_70 : decode cX10_comes 70 = .ok (.imul, 1) := by decide +kernel
theorem dX10_comes_71 : decode cX10_comes 71 = .ok (.iload_n 2, 1) := by decide +kernel
theorem dX10_comes_72 : decode cX10_comes 72 = .ok (.iadd, 1) := by decide +kernel
theorem dX10_comes_73 : decode cX10_comes 73 = .ok (.iload 5, 2) := by decide +kernel
theorem dX10_comes_75 : decode cX10_comes 75 = .ok (.iastore, 1) := by decide +kernel
theorem dX10_comes_76 : decode cX10_comes 76 = .ok (.aload_n 0, 1) := by decide +kernel
theorem dX10_comes_77 : decode cX10_comes 77 = .ok (.getfield 73, 3) := by decide +kernel
theorem dX10_comes_80 : decode cX10_comes 80 = .ok (.iconst 3, 1) := by decide +kernel
theorem dX10_comes_81 : decode cX10_comes 81 = .ok (.iload 7, 2) := by decide +kernel
theorem dX10_comes_83 : decode cX10_comes 83 = .ok (.imul, 1) := by decide +kernel
theorem dX10_comes_84 : decode cX10_comes 84 = .ok (.iload_n 2, 1) := by decide +kernel
theorem dX10_comes_85 : decode cX10_comes 85 = .ok (.iadd, 1) := by decide +kernel
theorem dX10_comes_86 : decode cX10_comes 86 = .ok (.iload 6, 2) := by decide +kernel
theorem dX10_comes_88 : decode cX10_comes 88 = .ok (.iastore, 1) := by decide +kernel
theorem dX10_comes_89 : decode cX10_comes 89 = .ok (.aload_n 0, 1) := by decide +kernel
theorem dX10_comes_90 : decode cX10_comes 90 = .ok (.getfield 58, 3) := by decide +kernel
theorem dX10_comes_93 : decode cX10_comes 93 = .ok (.iload 7, 2) := by decide +kernel
theorem dX10_comes_95 : decode cX10_comes 95 = .ok (.iaload, 1) := by decide +kernel
theorem dX10_comes_96 : decode cX10_comes 96 = .ok (.iconst 1, 1) := by decide +kernel
theorem dX10_comes_97 : decode cX10_comes 97 = .ok (.aload_n 0, 1) := by decide +kernel
theorem dX10_comes_98 : decode cX10_comes 98 = .ok (.getfield 16, 3) := by decide +kernel
theorem dX10_comes_101 : decode cX10_comes 101 = .ok (.iload_n 1, 1) := by decide +kernel
theorem dX10_comes_102 : decode cX10_comes 102 = .ok (.iaload, 1) := by decide +kernel
theorem dX10_comes_103 : decode cX10_comes 103 = .ok (.ishl, 1) := by decide +kernel
theorem dX10_comes_104 : decode cX10_comes 104 = .ok (.iconst 1, 1) := by decide +kernel
theorem dX10_comes_105 : decode cX10_comes 105 = .ok (.isub, 1) := by decide +kernel
theorem dX10_comes_106 : decode cX10_comes 106 = .ok (.if_icmp .eq 5, 3) := by decide +kernel
theorem dX10_comes_109 : decode cX10_comes 109 = .ok (.iconst 1, 1) := by decide +kernel
theorem dX10_comes_110 : decode cX10_comes 110 = .ok (.ireturn, 1) := by decide +kernel
theorem dX10_comes_111 : decode cX10_comes 111 = .ok (.aload_n 0, 1) := by decide +kernel
theorem dX10_comes_112 : decode cX10_comes 112 = .ok (.getfield 61, 3) := by decide +kernel
theorem dX10_comes_115 : decode cX10_comes 115 = .ok (.iload 7, 2) := by decide +kernel
theorem dX10_comes_117 : decode cX10_comes 117 = .ok (.iconst 1, 1) := by decide +kernel
theorem dX10_comes_118 : decode cX10_comes 118 = .ok (.iastore, 1) := by decide +kernel
theorem dX10_comes_119 : decode cX10_comes 119 = .ok (.aload_n 0, 1) := by decide +kernel
theorem dX10_comes_120 : decode cX10_comes 120 = .ok (.getfield 82, 3) := by decide +kernel
theorem dX10_comes_123 : decode cX10_comes 123 = .ok (.aload_n 0, 1) := by decide +kernel
theorem dX10_comes_124 : decode cX10_comes 124 = .ok (.getfield 175, 3) := by decide +kernel
theorem dX10_comes_127 : decode cX10_comes 127 = .ok (.iload 7, 2) := by decide +kernel
theorem dX10_comes_129 : decode cX10_comes 129 = .ok (.iastore, 1) := by decide +kernel
theorem dX10_comes_130 : decode cX10_comes 130 = .ok (.aload_n 0, 1) := by decide +kernel
theorem dX10_comes_131 : decode cX10_comes 131 = .ok (.dup, 1) := by decide +kernel
theorem dX10_comes_132 : decode cX10_comes 132 = .ok (.getfield 175, 3) := by decide +kernel
theorem dX10_comes_135 : decode cX10_comes 135 = .ok (.iconst 1, 1) := by decide +kernel
theorem dX10_comes_136 : decode cX10_comes 136 = .ok (.iadd, 1) := by decide +kernel
theorem dX10_comes_137 : decode cX10_comes 137 = .ok (.putfield 175, 3) := by decide +kernel
theorem dX10_comes_140 : decode cX10_comes 140 = .ok (.iconst 1, 1) := by decide +kernel
theorem dX10_comes_141 : decode cX10_comes 141 = .ok (.ireturn, 1) := by decide +kernel
theorem dX10_gives_0 : decode cX10_gives 0 = .ok (.iconst 0, 1) := by decide +kernel
theorem dX10_gives_1 : decode cX10_gives 1 = .ok (.istore 7, 2) := by decide +kernel
theorem dX10_gives_3 : decode cX10_gives 3 = .ok (.iload 7, 2) := by decide +kernel
theorem dX10_gives_5 : decode cX10_gives 5 = .ok (.aload_n 0, 1) := by decide +kernel
theorem dX10_gives_6 : decode cX10_gives 6 = .ok (.getfield 143, 3) := by decide +kernel
theorem dX10_gives_9 : decode cX10_gives 9 = .ok (.if_icmp .ge 61, 3) := by decide +kernel
theorem dX10_gives_12 : decode cX10_gives 12 = .ok (.aload_n 0, 1) := by decide +kernel
theorem dX10_gives_13 : decode cX10_gives 13 = .ok (.getfield 19, 3) := by decide +kernel
theorem dX10_gives_16 : decode cX10_gives 16 = .ok (.iload 7, 2) := by decide +kernel
theorem dX10_gives_18 : decode cX10_gives 18 = .ok (.iaload, 1) := by decide +kernel
theorem dX10_gives_19 : decode cX10_gives 19 = .ok (.iload_n 1, 1) := by decide +kernel
theorem dX10_gives_20 : decode cX10_gives 20 = .ok (.if_icmp .ne 44, 3) := by decide +kernel
theorem dX10_gives_23 : decode cX10_gives 23 = .ok (.aload_n 0, 1) := by decide +kernel
theorem dX10_gives_24 : decode cX10_gives 24 = .ok (.getfield 22, 3) := by decide +kernel
theorem dX10_gives_27 : decode cX10_gives 27 = .ok (.iload 7, 2) := by decide +kernel
theorem dX10_gives_29 : decode cX10_gives 29 = .ok (.iaload, 1) := by decide +kernel
theorem dX10_gives_30 : decode cX10_gives 30 = .ok (.iload_n 2, 1) := by decide +kernel
theorem dX10_gives_31 : decode cX10_gives 31 = .ok (.if_icmp .ne 33, 3) := by decide +kernel
theorem dX10_gives_34 : decode cX10_gives 34 = .ok (.aload_n 0, 1) := by decide +kernel
theorem dX10_gives_35 : decode cX10_gives 35 = .ok (.aload_n 0, 1) := by decide +kernel
theorem dX10_gives_36 : decode cX10_gives 36 = .ok (.getfield 25, 3) := by decide +kernel
theorem dX10_gives_39 : decode cX10_gives 39 = .ok (.iload 7, 2) := by decide +kernel
theorem dX10_gives_41 : decode cX10_gives 41 = .ok (.iaload, 1) := by decide +kernel
theorem dX10_gives_42 : decode cX10_gives 42 = .ok (.aload_n 0, 1) := by decide +kernel
theorem dX10_gives_43 : decode cX10_gives 43 = .ok (.getfield 28, 3) := by decide +kernel
theorem dX10_gives_46 : decode cX10_gives 46 = .ok (.iload 7, 2) := by decide +kernel
theorem dX10_gives_48 : decode cX10_gives 48 = .ok (.iaload, 1) := by decide +kernel
theorem dX10_gives_49 : decode cX10_gives 49 = .ok (.iload_n 3, 1) := by decide +kernel
theorem dX10_gives_50 : decode cX10_gives 50 = .ok (.iload 4, 2) := by decide +kernel
theorem dX10_gives_52 : decode cX10_gives 52 = .ok (.iload 5, 2) := by decide +kernel
theorem dX10_gives_54 : decode cX10_gives 54 = .ok (.iload 6, 2) := by decide +kernel
theorem dX10_gives_56 : decode cX10_gives 56 = .ok (.invokevirtual 178, 3) := by decide +kernel
theorem dX10_gives_59 : decode cX10_gives 59 = .ok (.ifCond .ne 5, 3) := by decide +kernel
theorem dX10_gives_62 : decode cX10_gives 62 = .ok (.iconst 0, 1) := by decide +kernel
theorem dX10_gives_63 : decode cX10_gives 63 = .ok (.ireturn, 1) := by decide +kernel
theorem dX10_gives_64 : decode cX10_gives 64 = .ok (.iinc 7 1, 3) := by decide +kernel
theorem dX10_gives_67 : decode cX10_gives 67 = .ok (.goto (-64), 3) := by decide +kernel
theorem dX10_gives_70 : decode cX10_gives 70 = .ok (.iconst 1, 1) := by decide +kernel
theorem dX10_gives_71 : decode cX10_gives 71 = .ok (.ireturn, 1) := by decide +kernel
theorem dX10_faults_0 : decode cX10_faults 0 = .ok (.aload_n 0, 1) := by decide +kernel
theorem dX10_faults_1 : decode cX10_faults 1 = .ok (.iload_n 1, 1) := by decide +kernel
theorem dX10_faults_2 : decode cX10_faults 2 = .ok (.iconst 0, 1) := by decide +kernel
theorem dX10_faults_3 : decode cX10_faults 3 = .ok (.iload_n 2, 1) := by decide +kernel
theorem dX10_faults_4 : decode cX10_faults 4 = .ok (.iconst 3, 1) := by decide +kernel
theorem dX10_faults_5 : decode cX10_faults 5 = .ok (.iload_n 3, 1) := by decide +kernel
theorem dX10_faults_6 : decode cX10_faults 6 = .ok (.iload_n 1, 1) := by decide +kernel
theorem dX10_faults_7 : decode cX10_faults 7 = .ok (.invokevirtual 182, 3) := by decide +kernel
theorem dX10_faults_10 : decode cX10_faults 10 = .ok (.ireturn, 1) := by decide +kernel
theorem dX10_kindAt_0 : decode cX10_kindAt 0 = .ok (.aload_n 0, 1) := by decide +kernel
theorem dX10_kindAt_1 : decode cX10_kindAt 1 = .ok (.getfield 67, 3) := by decide +kernel
theorem dX10_kindAt_4 : decode cX10_kindAt 4 = .ok (.iconst 3, 1) := by decide +kernel
theorem dX10_kindAt_5 : decode cX10_kindAt 5 = .ok (.iload_n 1, 1) := by decide +kernel
theorem dX10_kindAt_6 : decode cX10_kindAt 6 = .ok (.imul, 1) := by decide +kernel
theorem dX10_kindAt_7 : decode cX10_kindAt 7 = .ok (.iload_n 2, 1) := by decide +kernel
theorem dX10_kindAt_8 : decode cX10_kindAt 8 = .ok (.iadd, 1) := by decide +kernel
theorem dX10_kindAt_9 : decode cX10_kindAt 9 = .ok (.iaload, 1) := by decide +kernel
theorem dX10_kindAt_10 : decode cX10_kindAt 10 = .ok (.ireturn, 1) := by decide +kernel
theorem dX10_valueAt_0 : decode cX10_valueAt 0 = .ok (.aload_n 0, 1) := by decide +kernel
theorem dX10_valueAt_1 : decode cX10_valueAt 1 = .ok (.getfield 70, 3) := by decide +kernel
theorem dX10_valueAt_4 : decode cX10_valueAt 4 = .ok (.iconst 3, 1) := by decide +kernel
theorem dX10_valueAt_5 : decode cX10_valueAt 5 = .ok (.iload_n 1, 1) := by decide +kernel
theorem dX10_valueAt_6 : decode cX10_valueAt 6 = .ok (.imul, 1) := by decide +kernel
theorem dX10_valueAt_7 : decode cX10_valueAt 7 = .ok (.iload_n 2, 1) := by decide +kernel
theorem dX10_valueAt_8 : decode cX10_valueAt 8 = .ok (.iadd, 1) := by decide +kernel
theorem dX10_valueAt_9 : decode cX10_valueAt 9 = .ok (.iaload, 1) := by decide +kernel
theorem dX10_valueAt_10 : decode cX10_valueAt 10 = .ok (.ireturn, 1) := by decide +kernel
theorem dX10_passes_0 : decode cX10_passes 0 = .ok (.aload_n 0, 1) := by decide +kernel
theorem dX10_passes_1 : decode cX10_passes 1 = .ok (.aload_n 0, 1) := by decide +kernel
theorem dX10_passes_2 : decode cX10_passes 2 = .ok (.getfield 52, 3) := by decide +kernel
theorem dX10_passes_5 : decode cX10_passes 5 = .ok (.iload_n 1, 1) := by decide +kernel
theorem dX10_passes_6 : decode cX10_passes 6 = .ok (.iaload, 1) := by decide +kernel
theorem dX10_passes_7 : decode cX10_passes 7 = .ok (.iload_n 2, 1) := by decide +kernel
theorem dX10_passes_8 : decode cX10_passes 8 = .ok (.iload_n 3, 1) := by decide +kernel
theorem dX10_passes_9 : decode cX10_passes 9 = .ok (.aload_n 0, 1) := by decide +kernel
theorem dX10_passes_10 : decode cX10_passes 10 = .ok (.getfield 67, 3) := by decide +kernel
theorem dX10_passes_13 : decode cX10_passes 13 = .ok (.iconst 3, 1) := by decide +kernel
theorem dX10_passes_14 : decode cX10_passes 14 = .ok (.iload_n 1, 1) := by decide +kernel
theorem dX10_passes_15 : decode cX10_passes 15 = .ok (.imul, 1) := by decide +kernel
theorem dX10_passes_16 : decode cX10_passes 16 = .ok (.iaload, 1) := by decide +kernel
theorem dX10_passes_17 : decode cX10_passes 17 = .ok (.aload_n 0, 1) := by decide +kernel
theorem dX10_passes_18 : decode cX10_passes 18 = .ok (.getfield 70, 3) := by decide +kernel
theorem dX10_passes_21 : decode cX10_passes 21 = .ok (.iconst 3, 1) := by decide +kernel
theorem dX10_passes_22 : decode cX10_passes 22 = .ok (.iload_n 1, 1) := by decide +kernel
theorem dX10_passes_23 : decode cX10_passes 23 = .ok (.imul, 1) := by decide +kernel
theorem dX10_passes_24 : decode cX10_passes 24 = .ok (.iaload, 1) := by decide +kernel
theorem dX10_passes_25 : decode cX10_passes 25 = .ok (.aload_n 0, 1) := by decide +kernel
theorem dX10_passes_26 : decode cX10_passes 26 = .ok (.getfield 73, 3) := by decide +kernel
theorem dX10_passes_29 : decode cX10_passes 29 = .ok (.iconst 3, 1) := by decide +kernel
theorem dX10_passes_30 : decode cX10_passes 30 = .ok (.iload_n 1, 1) := by decide +kernel
theorem dX10_passes_31 : decode cX10_passes 31 = .ok (.imul, 1) := by decide +kernel
theorem dX10_passes_32 : decode cX10_passes 32 = .ok (.iaload, 1) := by decide +kernel
theorem dX10_passes_33 : decode cX10_passes 33 = .ok (.invokevirtual 182, 3) := by decide +kernel
theorem dX10_passes_36 : decode cX10_passes 36 = .ok (.ireturn, 1) := by decide +kernel
theorem dX10_faultOf_0 : decode cX10_faultOf 0 = .ok (.iconst 0, 1) := by decide +kernel
theorem dX10_faultOf_1 : decode cX10_faultOf 1 = .ok (.istore_n 3, 1) := by decide +kernel
theorem dX10_faultOf_2 : decode cX10_faultOf 2 = .ok (.iload_n 3, 1) := by decide +kernel
theorem dX10_faultOf_3 : decode cX10_faultOf 3 = .ok (.iload_n 2, 1) := by decide +kernel
theorem dX10_faultOf_4 : decode cX10_faultOf 4 = .ok (.if_icmp .ge 21, 3) := by decide +kernel
theorem dX10_faultOf_7 : decode cX10_faultOf 7 = .ok (.aload_n 0, 1) := by decide +kernel
theorem dX10_faultOf_8 : decode cX10_faultOf 8 = .ok (.iload_n 1, 1) := by decide +kernel
theorem dX10_faultOf_9 : decode cX10_faultOf 9 = .ok (.iload_n 3, 1) := by decide +kernel
theorem dX10_faultOf_10 : decode cX10_faultOf 10 = .ok (.invokevirtual 185, 3) := by decide +kernel
theorem dX10_faultOf_13 : decode cX10_faultOf 13 = .ok (.iconst 3, 1) := by decide +kernel
theorem dX10_faultOf_14 : decode cX10_faultOf 14 = .ok (.if_icmp .ne 5, 3) := by decide +kernel
theorem dX10_faultOf_17 : decode cX10_faultOf 17 = .ok (.iload_n 3, 1) := by decide +kernel
theorem dX10_faultOf_18 : decode cX10_faultOf 18 = .ok (.ireturn, 1) := by decide +kernel
theorem dX10_faultOf_19 : decode cX10_faultOf 19 = .ok (.iinc 3 1, 3) := by decide +kernel
theorem dX10_faultOf_22 : decode cX10_faultOf 22 = .ok (.goto (-20), 3) := by decide +kernel
theorem dX10_faultOf_25 : decode cX10_faultOf 25 = .ok (.iconst (-1), 1) := by decide +kernel
theorem dX10_faultOf_26 : decode cX10_faultOf 26 = .ok (.ireturn, 1) := by decide +kernel
theorem dX10_number_0 : decode cX10_number 0 = .ok (.aload_n 0, 1) := by decide +kernel
theorem dX10_number_1 : decode cX10_number 1 = .ok (.aload_n 0, 1) := by decide +kernel
theorem dX10_number_2 : decode cX10_number 2 = .ok (.getfield 52, 3) := by decide +kernel
theorem dX10_number_5 : decode cX10_number 5 = .ok (.iload_n 1, 1) := by decide +kernel
theorem dX10_number_6 : decode cX10_number 6 = .ok (.iaload, 1) := by decide +kernel
theorem dX10_number_7 : decode cX10_number 7 = .ok (.iconst 0, 1) := by decide +kernel
theorem dX10_number_8 : decode cX10_number 8 = .ok (.aload_n 0, 1) := by decide +kernel
theorem dX10_number_9 : decode cX10_number 9 = .ok (.getfield 55, 3) := by decide +kernel
theorem dX10_number_12 : decode cX10_number 12 = .ok (.iload_n 1, 1) := by decide +kernel
theorem dX10_number_13 : decode cX10_number 13 = .ok (.iaload, 1) := by decide +kernel
theorem dX10_number_14 : decode cX10_number 14 = .ok (.iconst 1, 1) := by decide +kernel
theorem dX10_number_15 : decode cX10_number 15 = .ok (.iload_n 2, 1) := by decide +kernel
theorem dX10_number_16 : decode cX10_number 16 = .ok (.iconst (-1), 1) := by decide +kernel
theorem dX10_number_17 : decode cX10_number 17 = .ok (.invokevirtual 182, 3) := by decide +kernel
theorem dX10_number_20 : decode cX10_number 20 = .ok (.ireturn, 1) := by decide +kernel
theorem dX10_goesOff_0 : decode cX10_goesOff 0 = .ok (.aload_n 0, 1) := by decide +kernel
theorem dX10_goesOff_1 : decode cX10_goesOff 1 = .ok (.getfield 52, 3) := by decide +kernel
theorem dX10_goesOff_4 : decode cX10_goesOff 4 = .ok (.iload_n 1, 1) := by decide +kernel
theorem dX10_goesOff_5 : decode cX10_goesOff 5 = .ok (.iaload, 1) := by decide +kernel
theorem dX10_goesOff_6 : decode cX10_goesOff 6 = .ok (.istore_n 2, 1) := by decide +kernel
theorem dX10_goesOff_7 : decode cX10_goesOff 7 = .ok (.aload_n 0, 1) := by decide +kernel
theorem dX10_goesOff_8 : decode cX10_goesOff 8 = .ok (.getfield 55, 3) := by decide +kernel
theorem dX10_goesOff_11 : decode cX10_goesOff 11 = .ok (.iload_n 1, 1) := by decide +kernel
theorem dX10_goesOff_12 : decode cX10_goesOff 12 = .ok (.iaload, 1) := by decide +kernel
theorem dX10_goesOff_13 : decode cX10_goesOff 13 = .ok (.istore_n 3, 1) := by decide +kernel
theorem dX10_goesOff_14 : decode cX10_goesOff 14 = .ok (.aload_n 0, 1) := by decide +kernel
theorem dX10_goesOff_15 : decode cX10_goesOff 15 = .ok (.getfield 7, 3) := by decide +kernel
theorem dX10_goesOff_18 : decode cX10_goesOff 18 = .ok (.iload_n 2, 1) := by decide +kernel
theorem dX10_goesOff_19 : decode cX10_goesOff 19 = .ok (.iaload, 1) := by decide +kernel
theorem dX10_goesOff_20 : decode cX10_goesOff 20 = .ok (.istore 4, 2) := by decide +kernel
theorem dX10_goesOff_22 : decode cX10_goesOff 22 = .ok (.iload 4, 2) := by decide +kernel
theorem dX10_goesOff_24 : decode cX10_goesOff 24 = .ok (.tableswitch 154 0 21 #[104, 112, 154, 154, 154, 154, 154, 154, 154, 154, 124, 130, 130, 130, 136, 104, 142, 154, 154, 154, 154, 148], 104) := by decide +kernel
theorem dX10_goesOff_128 : decode cX10_goesOff 128 = .ok (.aload_n 0, 1) := by decide +kernel
theorem dX10_goesOff_129 : decode cX10_goesOff 129 = .ok (.iload_n 1, 1) := by decide +kernel
theorem dX10_goesOff_130 : decode cX10_goesOff 130 = .ok (.iconst 0, 1) := by decide +kernel
theorem dX10_goesOff_131 : decode cX10_goesOff 131 = .ok (.iload_n 3, 1) := by decide +kernel
theorem dX10_goesOff_132 : decode cX10_goesOff 132 = .ok (.invokevirtual 188, 3) := by decide +kernel
theorem dX10_goesOff_135 : decode cX10_goesOff 135 = .ok (.ireturn, 1) := by decide +kernel
theorem dX10_goesOff_136 : decode cX10_goesOff 136 = .ok (.aload_n 0, 1) := by decide +kernel
theorem dX10_goesOff_137 : decode cX10_goesOff 137 = .ok (.iload_n 1, 1) := by decide +kernel
theorem dX10_goesOff_138 : decode cX10_goesOff 138 = .ok (.aload_n 0, 1) := by decide +kernel
theorem dX10_goesOff_139 : decode cX10_goesOff 139 = .ok (.getfield 13, 3) := by decide +kernel
theorem dX10_goesOff_142 : decode cX10_goesOff 142 = .ok (.iload_n 2, 1) := by decide +kernel
theorem dX10_goesOff_143 : decode cX10_goesOff 143 = .ok (.iaload, 1) := by decide +kernel
theorem dX10_goesOff_144 : decode cX10_goesOff 144 = .ok (.invokevirtual 191, 3) := by decide +kernel
theorem dX10_goesOff_147 : decode cX10_goesOff 147 = .ok (.ireturn, 1) := by decide +kernel
theorem dX10_goesOff_148 : decode cX10_goesOff 148 = .ok (.aload_n 0, 1) := by decide +kernel
theorem dX10_goesOff_149 : decode cX10_goesOff 149 = .ok (.iload_n 1, 1) := by decide +kernel
theorem dX10_goesOff_150 : decode cX10_goesOff 150 = .ok (.invokevirtual 194, 3) := by decide +kernel
theorem dX10_goesOff_153 : decode cX10_goesOff 153 = .ok (.ireturn, 1) := by decide +kernel
theorem dX10_goesOff_154 : decode cX10_goesOff 154 = .ok (.aload_n 0, 1) := by decide +kernel
theorem dX10_goesOff_155 : decode cX10_goesOff 155 = .ok (.iload_n 1, 1) := by decide +kernel
theorem dX10_goesOff_156 : decode cX10_goesOff 156 = .ok (.invokevirtual 197, 3) := by decide +kernel
theorem dX10_goesOff_159 : decode cX10_goesOff 159 = .ok (.ireturn, 1) := by decide +kernel
theorem dX10_goesOff_160 : decode cX10_goesOff 160 = .ok (.aload_n 0, 1) := by decide +kernel
theorem dX10_goesOff_161 : decode cX10_goesOff 161 = .ok (.iload_n 1, 1) := by decide +kernel
theorem dX10_goesOff_162 : decode cX10_goesOff 162 = .ok (.invokevirtual 200, 3) := by decide +kernel
theorem dX10_goesOff_165 : decode cX10_goesOff 165 = .ok (.ireturn, 1) := by decide +kernel
theorem dX10_goesOff_166 : decode cX10_goesOff 166 = .ok (.aload_n 0, 1) := by decide +kernel
theorem dX10_goesOff_167 : decode cX10_goesOff 167 = .ok (.iload_n 1, 1) := by decide +kernel
theorem dX10_goesOff_168 : decode cX10_goesOff 168 = .ok (.invokevirtual 203, 3) := by decide +kernel
theorem dX10_goesOff_171 : decode cX10_goesOff 171 = .ok (.ireturn, 1) := by decide +kernel
theorem dX10_goesOff_172 : decode cX10_goesOff 172 = .ok (.aload_n 0, 1) := by decide +kernel
theorem dX10_goesOff_173 : decode cX10_goesOff 173 = .ok (.iload_n 1, 1) := by decide +kernel
theorem dX10_goesOff_174 : decode cX10_goesOff 174 = .ok (.invokevirtual 206, 3) := by decide +kernel
theorem dX10_goesOff_177 : decode cX10_goesOff 177 = .ok (.ireturn, 1) := by decide +kernel
theorem dX10_goesOff_178 : decode cX10_goesOff 178 = .ok (.aload_n 0, 1) := by decide +kernel
theorem dX10_goesOff_179 : decode cX10_goesOff 179 = .ok (.iload_n 1, 1) := by decide +kernel
theorem dX10_goesOff_180 : decode cX10_goesOff 180 = .ok (.iload 4, 2) := by decide +kernel
theorem dX10_goesOff_182 : decode cX10_goesOff 182 = .ok (.bipush 19, 2) := by decide +kernel
theorem dX10_goesOff_184 : decode cX10_goesOff 184 = .ok (.if_icmp .ne 7, 3) := by decide +kernel
theorem dX10_goesOff_187 : decode cX10_goesOff 187 = .ok (.iconst 2, 1) := by decide +kernel
theorem dX10_goesOff_188 : decode cX10_goesOff 188 = .ok (.goto 9, 3) := by decide +kernel
theorem dX10_goesOff_191 : decode cX10_goesOff 191 = .ok (.aload_n 0, 1) := by decide +kernel
theorem dX10_goesOff_192 : decode cX10_goesOff 192 = .ok (.getfield 16, 3) := by decide +kernel
theorem dX10_goesOff_195 : decode cX10_goesOff 195 = .ok (.iload_n 2, 1) := by decide +kernel
theorem dX10_goesOff_196 : decode cX10_goesOff 196 = .ok (.iaload, 1) := by decide +kernel
theorem dX10_goesOff_197 : decode cX10_goesOff 197 = .ok (.invokevirtual 209, 3) := by decide +kernel
theorem dX10_goesOff_200 : decode cX10_goesOff 200 = .ok (.istore 5, 2) := by decide +kernel
theorem dX10_goesOff_202 : decode cX10_goesOff 202 = .ok (.iload 5, 2) := by decide +kernel
theorem dX10_goesOff_204 : decode cX10_goesOff 204 = .ok (.ifCond .lt 34, 3) := by decide +kernel
theorem dX10_goesOff_207 : decode cX10_goesOff 207 = .ok (.aload_n 0, 1) := by decide +kernel
theorem dX10_goesOff_208 : decode cX10_goesOff 208 = .ok (.iload_n 2, 1) := by decide +kernel
theorem dX10_goesOff_209 : decode cX10_goesOff 209 = .ok (.iconst 0, 1) := by decide +kernel
theorem dX10_goesOff_210 : decode cX10_goesOff 210 = .ok (.iload_n 3, 1) := by decide +kernel
theorem dX10_goesOff_211 : decode cX10_goesOff 211 = .ok (.iconst 3, 1) := by decide +kernel
theorem dX10_goesOff_212 : decode cX10_goesOff 212 = .ok (.aload_n 0, 1) := by decide +kernel
theorem dX10_goesOff_213 : decode cX10_goesOff 213 = .ok (.getfield 70, 3) := by decide +kernel
theorem dX10_goesOff_216 : decode cX10_goesOff 216 = .ok (.iconst 3, 1) := by decide +kernel
theorem dX10_goesOff_217 : decode cX10_goesOff 217 = .ok (.iload_n 1, 1) := by decide +kernel
theorem dX10_goesOff_218 : decode cX10_goesOff 218 = .ok (.imul, 1) := by decide +kernel
theorem dX10_goesOff_219 : decode cX10_goesOff 219 = .ok (.iload 5, 2) := by decide +kernel
theorem dX10_goesOff_221 : decode cX10_goesOff 221 = .ok (.iadd, 1) := by decide +kernel
theorem dX10_goesOff_222 : decode cX10_goesOff 222 = .ok (.iaload, 1) := by decide +kernel
theorem dX10_goesOff_223 : decode cX10_goesOff 223 = .ok (.aload_n 0, 1) := by decide +kernel
theorem dX10_goesOff_224 : decode cX10_goesOff 224 = .ok (.getfield 73, 3) := by decide +kernel
theorem dX10_goesOff_227 : decode cX10_goesOff 227 = .ok (.iconst 3, 1) := by decide +kernel
theorem dX10_goesOff_228 : decode cX10_goesOff 228 = .ok (.iload_n 1, 1) := by decide +kernel
theorem dX10_goesOff_229 : decode cX10_goesOff 229 = .ok (.imul, 1) := by decide +kernel
theorem dX10_goesOff_230 : decode cX10_goesOff 230 = .ok (.iload 5, 2) := by decide +kernel
theorem dX10_goesOff_232 : decode cX10_goesOff 232 = .ok (.iadd, 1) := by decide +kernel
theorem dX10_goesOff_233 : decode cX10_goesOff 233 = .ok (.iaload, 1) := by decide +kernel
theorem dX10_goesOff_234 : decode cX10_goesOff 234 = .ok (.invokevirtual 182, 3) := by decide +kernel
theorem dX10_goesOff_237 : decode cX10_goesOff 237 = .ok (.ireturn, 1) := by decide +kernel
theorem dX10_goesOff_238 : decode cX10_goesOff 238 = .ok (.iload 4, 2) := by decide +kernel
theorem dX10_goesOff_240 : decode cX10_goesOff 240 = .ok (.bipush 9, 2) := by decide +kernel
theorem dX10_goesOff_242 : decode cX10_goesOff 242 = .ok (.if_icmp .le 10, 3) := by decide +kernel
theorem dX10_goesOff_245 : decode cX10_goesOff 245 = .ok (.iload 4, 2) := by decide +kernel
theorem dX10_goesOff_247 : decode cX10_goesOff 247 = .ok (.bipush 17, 2) := by decide +kernel
theorem dX10_goesOff_249 : decode cX10_goesOff 249 = .ok (.if_icmp .ne 11, 3) := by decide +kernel
theorem dX10_goesOff_252 : decode cX10_goesOff 252 = .ok (.aload_n 0, 1) := by decide +kernel
theorem dX10_goesOff_253 : decode cX10_goesOff 253 = .ok (.iload_n 1, 1) := by decide +kernel
theorem dX10_goesOff_254 : decode cX10_goesOff 254 = .ok (.iload 4, 2) := by decide +kernel
theorem dX10_goesOff_256 : decode cX10_goesOff 256 = .ok (.invokevirtual 212, 3) := by decide +kernel
theorem dX10_goesOff_259 : decode cX10_goesOff 259 = .ok (.ireturn, 1) := by decide +kernel
theorem dX10_goesOff_260 : decode cX10_goesOff 260 = .ok (.aload_n 0, 1) := by decide +kernel
theorem dX10_goesOff_261 : decode cX10_goesOff 261 = .ok (.iload_n 1, 1) := by decide +kernel
theorem dX10_goesOff_262 : decode cX10_goesOff 262 = .ok (.iload 4, 2) := by decide +kernel
theorem dX10_goesOff_264 : decode cX10_goesOff 264 = .ok (.invokevirtual 215, 3) := by decide +kernel
theorem dX10_goesOff_267 : decode cX10_goesOff 267 = .ok (.ireturn, 1) := by decide +kernel
theorem dX10_switches_0 : decode cX10_switches 0 = .ok (.aload_n 0, 1) := by decide +kernel
theorem dX10_switches_1 : decode cX10_switches 1 = .ok (.iload_n 1, 1) := by decide +kernel
theorem dX10_switches_2 : decode cX10_switches 2 = .ok (.iconst 1, 1) := by decide +kernel
theorem dX10_switches_3 : decode cX10_switches 3 = .ok (.invokevirtual 185, 3) := by decide +kernel
theorem dX10_switches_6 : decode cX10_switches 6 = .ok (.iconst 1, 1) := by decide +kernel
theorem dX10_switches_7 : decode cX10_switches 7 = .ok (.if_icmp .eq 15, 3) := by decide +kernel
theorem dX10_switches_10 : decode cX10_switches 10 = .ok (.aload_n 0, 1) := by decide +kernel
theorem dX10_switches_11 : decode cX10_switches 11 = .ok (.dup, 1) := by decide +kernel
theorem dX10_switches_12 : decode cX10_switches 12 = .ok (.getfield 218, 3) := by decide +kernel
theorem dX10_switches_15 : decode cX10_switches 15 = .ok (.iconst 1, 1) := by decide +kernel
theorem dX10_switches_16 : decode cX10_switches 16 = .ok (.iadd, 1) := by decide +kernel
theorem dX10_switches_17 : decode cX10_switches 17 = .ok (.putfield 218, 3) := by decide +kernel
theorem dX10_switches_20 : decode cX10_switches 20 = .ok (.iconst 1, 1) := by decide +kernel
theorem dX10_switches_21 : decode cX10_switches 21 = .ok (.ireturn, 1) := by decide +kernel
theorem dX10_switches_22 : decode cX10_switches 22 = .ok (.aload_n 0, 1) := by decide +kernel
theorem dX10_switches_23 : decode cX10_switches 23 = .ok (.iload_n 1, 1) := by decide +kernel
theorem dX10_switches_24 : decode cX10_switches 24 = .ok (.aload_n 0, 1) := by decide +kernel
theorem dX10_switches_25 : decode cX10_switches 25 = .ok (.iload_n 1, 1) := by decide +kernel
theorem dX10_switches_26 : decode cX10_switches 26 = .ok (.iconst 1, 1) := by decide +kernel
theorem dX10_switches_27 : decode cX10_switches 27 = .ok (.invokevirtual 221, 3) := by decide +kernel
theorem dX10_switches_30 : decode cX10_switches 30 = .ok (.ifCond .eq 7, 3) := by decide +kernel
theorem dX10_switches_33 : decode cX10_switches 33 = .ok (.iconst 0, 1) := by decide +kernel
theorem dX10_switches_34 : decode cX10_switches 34 = .ok (.goto 4, 3) := by decide +kernel
theorem dX10_switches_37 : decode cX10_switches 37 = .ok (.iconst 1, 1) := by decide +kernel
theorem dX10_switches_38 : decode cX10_switches 38 = .ok (.aload_n 0, 1) := by decide +kernel
theorem dX10_switches_39 : decode cX10_switches 39 = .ok (.getfield 55, 3) := by decide +kernel
theorem dX10_switches_42 : decode cX10_switches 42 = .ok (.iload_n 1, 1) := by decide +kernel
theorem dX10_switches_43 : decode cX10_switches 43 = .ok (.iaload, 1) := by decide +kernel
theorem dX10_switches_44 : decode cX10_switches 44 = .ok (.invokevirtual 188, 3) := by decide +kernel
theorem dX10_switches_47 : decode cX10_switches 47 = .ok (.ireturn, 1) := by decide +kernel
theorem dX10_loops_0 : decode cX10_loops 0 = .ok (.aload_n 0, 1) := by decide +kernel
theorem dX10_loops_1 : decode cX10_loops 1 = .ok (.getfield 52, 3) := by decide +kernel
theorem dX10_loops_4 : decode cX10_loops 4 = .ok (.iload_n 1, 1) := by decide +kernel
theorem dX10_loops_5 : decode cX10_loops 5 = .ok (.iaload, 1) := by decide +kernel
theorem dX10_loops_6 : decode cX10_loops 6 = .ok (.istore_n 2, 1) := by decide +kernel
theorem dX10_loops_7 : decode cX10_loops 7 = .ok (.aload_n 0, 1) := by decide +kernel
theorem dX10_loops_8 : decode cX10_loops 8 = .ok (.getfield 55, 3) := by decide +kernel
theorem dX10_loops_11 : decode cX10_loops 11 = .ok (.iload_n 1, 1) := by decide +kernel
theorem dX10_loops_12 : decode cX10_loops 12 = .ok (.iaload, 1) := by decide +kernel
theorem dX10_loops_13 : decode cX10_loops 13 = .ok (.istore_n 3, 1) := by decide +kernel
theorem dX10_loops_14 : decode cX10_loops 14 = .ok (.aload_n 0, 1) := by decide +kernel
theorem dX10_loops_15 : decode cX10_loops 15 = .ok (.getfield 13, 3) := by decide +kernel
theorem dX10_loops_18 : decode cX10_loops 18 = .ok (.iload_n 2, 1) := by decide +kernel
theorem dX10_loops_19 : decode cX10_loops 19 = .ok (.iaload, 1) := by decide +kernel
theorem dX10_loops_20 : decode cX10_loops 20 = .ok (.istore 4, 2) := by decide +kernel
theorem dX10_loops_22 : decode cX10_loops 22 = .ok (.aload_n 0, 1) := by decide +kernel
theorem dX10_loops_23 : decode cX10_loops 23 = .ok (.getfield 7, 3) := by decide +kernel
theorem dX10_loops_26 : decode cX10_loops 26 = .ok (.iload_n 2, 1) := by decide +kernel
theorem dX10_loops_27 : decode cX10_loops 27 = .ok (.iaload, 1) := by decide +kernel
theorem dX10_loops_28 : decode cX10_loops 28 = .ok (.bipush 11, 2) := by decide +kernel
theorem dX10_loops_30 : decode cX10_loops 30 = .ok (.if_icmp .ne 36, 3) := by decide +kernel
theorem dX10_loops_33 : decode cX10_loops 33 = .ok (.aload_n 0, 1) := by decide +kernel
theorem dX10_loops_34 : decode cX10_loops 34 = .ok (.iconst 1, 1) := by decide +kernel
theorem dX10_loops_35 : decode cX10_loops 35 = .ok (.iload 4, 2) := by decide +kernel
theorem dX10_loops_37 : decode cX10_loops 37 = .ok (.iconst 0, 1) := by decide +kernel
theorem dX10_loops_38 : decode cX10_loops 38 = .ok (.iload_n 3, 1) := by decide +kernel
theorem dX10_loops_39 : decode cX10_loops 39 = .ok (.invokevirtual 224, 3) := by decide +kernel
theorem dX10_loops_42 : decode cX10_loops 42 = .ok (.istore 5, 2) := by decide +kernel
theorem dX10_loops_44 : decode cX10_loops 44 = .ok (.iload 5, 2) := by decide +kernel
theorem dX10_loops_46 : decode cX10_loops 46 = .ok (.ifCond .lt 18, 3) := by decide +kernel
theorem dX10_loops_49 : decode cX10_loops 49 = .ok (.aload_n 0, 1) := by decide +kernel
theorem dX10_loops_50 : decode cX10_loops 50 = .ok (.iload_n 1, 1) := by decide +kernel
theorem dX10_loops_51 : decode cX10_loops 51 = .ok (.iconst 0, 1) := by decide +kernel
theorem dX10_loops_52 : decode cX10_loops 52 = .ok (.iload 5, 2) := by decide +kernel
theorem dX10_loops_54 : decode cX10_loops 54 = .ok (.invokevirtual 188, 3) := by decide +kernel
theorem dX10_loops_57 : decode cX10_loops 57 = .ok (.ifCond .eq 7, 3) := by decide +kernel
theorem dX10_loops_60 : decode cX10_loops 60 = .ok (.iconst 1, 1) := by decide +kernel
theorem dX10_loops_61 : decode cX10_loops 61 = .ok (.goto 4, 3) := by decide +kernel
theorem dX10_loops_64 : decode cX10_loops 64 = .ok (.iconst 0, 1) := by decide +kernel
theorem dX10_loops_65 : decode cX10_loops 65 = .ok (.ireturn, 1) := by decide +kernel
theorem dX10_loops_66 : decode cX10_loops 66 = .ok (.aload_n 0, 1) := by decide +kernel
theorem dX10_loops_67 : decode cX10_loops 67 = .ok (.getfield 40, 3) := by decide +kernel
theorem dX10_loops_70 : decode cX10_loops 70 = .ok (.iload_n 3, 1) := by decide +kernel
theorem dX10_loops_71 : decode cX10_loops 71 = .ok (.iaload, 1) := by decide +kernel
theorem dX10_loops_72 : decode cX10_loops 72 = .ok (.iconst 1, 1) := by decide +kernel
theorem dX10_loops_73 : decode cX10_loops 73 = .ok (.if_icmp .ne 14, 3) := by decide +kernel
theorem dX10_loops_76 : decode cX10_loops 76 = .ok (.aload_n 0, 1) := by decide +kernel
theorem dX10_loops_77 : decode cX10_loops 77 = .ok (.getfield 43, 3) := by decide +kernel
theorem dX10_loops_80 : decode cX10_loops 80 = .ok (.iload_n 3, 1) := by decide +kernel
theorem dX10_loops_81 : decode cX10_loops 81 = .ok (.iaload, 1) := by decide +kernel
theorem dX10_loops_82 : decode cX10_loops 82 = .ok (.iload 4, 2) := by decide +kernel
theorem dX10_loops_84 : decode cX10_loops 84 = .ok (.if_icmp .eq 11, 3) := by decide +kernel
theorem dX10_loops_87 : decode cX10_loops 87 = .ok (.aload_n 0, 1) := by decide +kernel
theorem dX10_loops_88 : decode cX10_loops 88 = .ok (.iload_n 2, 1) := by decide +kernel
theorem dX10_loops_89 : decode cX10_loops 89 = .ok (.iload_n 3, 1) := by decide +kernel
theorem dX10_loops_90 : decode cX10_loops 90 = .ok (.iconst 5, 1) := by decide +kernel
theorem dX10_loops_91 : decode cX10_loops 91 = .ok (.invokevirtual 228, 3) := by decide +kernel
theorem dX10_loops_94 : decode cX10_loops 94 = .ok (.ireturn, 1) := by decide +kernel
theorem dX10_loops_95 : decode cX10_loops 95 = .ok (.aload_n 0, 1) := by decide +kernel
theorem dX10_loops_96 : decode cX10_loops 96 = .ok (.getfield 7, 3) := by decide +kernel
theorem dX10_loops_99 : decode cX10_loops 99 = .ok (.iload_n 2, 1) := by decide +kernel
theorem dX10_loops_100 : decode cX10_loops 100 = .ok (.iaload, 1) := by decide +kernel
theorem dX10_loops_101 : decode cX10_loops 101 = .ok (.bipush 13, 2) := by decide +kernel
theorem dX10_loops_103 : decode cX10_loops 103 = .ok (.if_icmp .ne 16, 3) := by decide +kernel
theorem dX10_loops_106 : decode cX10_loops 106 = .ok (.aload_n 0, 1) := by decide +kernel
theorem dX10_loops_107 : decode cX10_loops 107 = .ok (.iload_n 1, 1) := by decide +kernel
theorem dX10_loops_108 : decode cX10_loops 108 = .ok (.iconst 0, 1) := by decide +kernel
theorem dX10_loops_109 : decode cX10_loops 109 = .ok (.aload_n 0, 1) := by decide +kernel
theorem dX10_loops_110 : decode cX10_loops 110 = .ok (.getfield 49, 3) := by decide +kernel
theorem dX10_loops_113 : decode cX10_loops 113 = .ok (.iload_n 3, 1) := by decide +kernel
theorem dX10_loops_114 : decode cX10_loops 114 = .ok (.iaload, 1) := by decide +kernel
theorem dX10_loops_115 : decode cX10_loops 115 = .ok (.invokevirtual 188, 3) := by decide +kernel
theorem dX10_loops_118 : decode cX10_loops 118 = .ok (.ireturn, 1) := by decide +kernel
theorem dX10_loops_119 : decode cX10_loops 119 = .ok (.aload_n 0, 1) := by decide +kernel
theorem dX10_loops_120 : decode cX10_loops 120 = .ok (.iconst 1, 1) := by decide +kernel
theorem dX10_loops_121 : decode cX10_loops 121 = .ok (.iload 4, 2) := by decide +kernel
theorem dX10_loops_123 : decode cX10_loops 123 = .ok (.aload_n 0, 1) := by decide +kernel
theorem dX10_loops_124 : decode cX10_loops 124 = .ok (.getfield 46, 3) := by decide +kernel
theorem dX10_loops_127 : decode cX10_loops 127 = .ok (.iload_n 3, 1) := by decide +kernel
theorem dX10_loops_128 : decode cX10_loops 128 = .ok (.iaload, 1) := by decide +kernel
theorem dX10_loops_129 : decode cX10_loops 129 = .ok (.iconst 1, 1) := by decide +kernel
theorem dX10_loops_130 : decode cX10_loops 130 = .ok (.iadd, 1) := by decide +kernel
theorem dX10_loops_131 : decode cX10_loops 131 = .ok (.aload_n 0, 1) := by decide +kernel
theorem dX10_loops_132 : decode cX10_loops 132 = .ok (.getfield 49, 3) := by decide +kernel
theorem dX10_loops_135 : decode cX10_loops 135 = .ok (.iload_n 3, 1) := by decide +kernel
theorem dX10_loops_136 : decode cX10_loops 136 = .ok (.iaload, 1) := by decide +kernel
theorem dX10_loops_137 : decode cX10_loops 137 = .ok (.invokevirtual 224, 3) := by decide +kernel
theorem dX10_loops_140 : decode cX10_loops 140 = .ok (.istore 5, 2) := by decide +kernel
theorem dX10_loops_142 : decode cX10_loops 142 = .ok (.iload 5, 2) := by decide +kernel
theorem dX10_loops_144 : decode cX10_loops 144 = .ok (.ifCond .lt 18, 3) := by decide +kernel
theorem dX10_loops_147 : decode cX10_loops 147 = .ok (.aload_n 0, 1) := by decide +kernel
theorem dX10_loops_148 : decode cX10_loops 148 = .ok (.iload_n 1, 1) := by decide +kernel
theorem dX10_loops_149 : decode cX10_loops 149 = .ok (.iconst 0, 1) := by decide +kernel
theorem dX10_loops_150 : decode cX10_loops 150 = .ok (.iload 5, 2) := by decide +kernel
theorem dX10_loops_152 : decode cX10_loops 152 = .ok (.invokevirtual 188, 3) := by decide +kernel
theorem dX10_loops_155 : decode cX10_loops 155 = .ok (.ifCond .eq 7, 3) := by decide +kernel
theorem dX10_loops_158 : decode cX10_loops 158 = .ok (.iconst 1, 1) := by decide +kernel
theorem dX10_loops_159 : decode cX10_loops 159 = .ok (.goto 4, 3) := by decide +kernel
theorem dX10_loops_162 : decode cX10_loops 162 = .ok (.iconst 0, 1) := by decide +kernel
theorem dX10_loops_163 : decode cX10_loops 163 = .ok (.ireturn, 1) := by decide +kernel
theorem dX10_calls_0 : decode cX10_calls 0 = .ok (.aload_n 0, 1) := by decide +kernel
theorem dX10_calls_1 : decode cX10_calls 1 = .ok (.getfield 52, 3) := by decide +kernel
theorem dX10_calls_4 : decode cX10_calls 4 = .ok (.iload_n 1, 1) := by decide +kernel
theorem dX10_calls_5 : decode cX10_calls 5 = .ok (.iaload, 1) := by decide +kernel
theorem dX10_calls_6 : decode cX10_calls 6 = .ok (.istore_n 2, 1) := by decide +kernel
theorem dX10_calls_7 : decode cX10_calls 7 = .ok (.aload_n 0, 1) := by decide +kernel
theorem dX10_calls_8 : decode cX10_calls 8 = .ok (.iconst 2, 1) := by decide +kernel
theorem dX10_calls_9 : decode cX10_calls 9 = .ok (.iload_n 2, 1) := by decide +kernel
theorem dX10_calls_10 : decode cX10_calls 10 = .ok (.iconst 0, 1) := by decide +kernel
theorem dX10_calls_11 : decode cX10_calls 11 = .ok (.aload_n 0, 1) := by decide +kernel
theorem dX10_calls_12 : decode cX10_calls 12 = .ok (.getfield 55, 3) := by decide +kernel
theorem dX10_calls_15 : decode cX10_calls 15 = .ok (.iload_n 1, 1) := by decide +kernel
theorem dX10_calls_16 : decode cX10_calls 16 = .ok (.iaload, 1) := by decide +kernel
theorem dX10_calls_17 : decode cX10_calls 17 = .ok (.invokevirtual 224, 3) := by decide +kernel
theorem dX10_calls_20 : decode cX10_calls 20 = .ok (.istore_n 3, 1) := by decide +kernel
theorem dX10_calls_21 : decode cX10_calls 21 = .ok (.iload_n 3, 1) := by decide +kernel
theorem dX10_calls_22 : decode cX10_calls 22 = .ok (.ifCond .ge 5, 3) := by decide +kernel
theorem dX10_calls_25 : decode cX10_calls 25 = .ok (.iconst 0, 1) := by decide +kernel
theorem dX10_calls_26 : decode cX10_calls 26 = .ok (.ireturn, 1) := by decide +kernel
theorem dX10_calls_27 : decode cX10_calls 27 = .ok (.iconst 0, 1) := by decide +kernel
theorem dX10_calls_28 : decode cX10_calls 28 = .ok (.istore 4, 2) := by decide +kernel
theorem dX10_calls_30 : decode cX10_calls 30 = .ok (.iload 4, 2) := by decide +kernel
theorem dX10_calls_32 : decode cX10_calls 32 = .ok (.aload_n 0, 1) := by decide +kernel
theorem dX10_calls_33 : decode cX10_calls 33 = .ok (.getfield 16, 3) := by decide +kernel
theorem dX10_calls_36 : decode cX10_calls 36 = .ok (.iload_n 2, 1) := by decide +kernel
theorem dX10_calls_37 : decode cX10_calls 37 = .ok (.iaload, 1) := by decide +kernel
theorem dX10_calls_38 : decode cX10_calls 38 = .ok (.if_icmp .ge 116, 3) := by decide +kernel
theorem dX10_calls_41 : decode cX10_calls 41 = .ok (.iconst 0, 1) := by decide +kernel
theorem dX10_calls_42 : decode cX10_calls 42 = .ok (.istore 5, 2) := by decide +kernel
theorem dX10_calls_44 : decode cX10_calls 44 = .ok (.iload 5, 2) := by decide +kernel
theorem dX10_calls_46 : decode cX10_calls 46 = .ok (.aload_n 0, 1) := by decide +kernel
theorem dX10_calls_47 : decode cX10_calls 47 = .ok (.getfield 127, 3) := by decide +kernel
theorem dX10_calls_50 : decode cX10_calls 50 = .ok (.if_icmp .ge 43, 3) := by decide +kernel
theorem dX10_calls_53 : decode cX10_calls 53 = .ok (.aload_n 0, 1) := by decide +kernel
theorem dX10_calls_54 : decode cX10_calls 54 = .ok (.getfield 7, 3) := by decide +kernel
theorem dX10_calls_57 : decode cX10_calls 57 = .ok (.iload 5, 2) := by decide +kernel
theorem dX10_calls_59 : decode cX10_calls 59 = .ok (.iaload, 1) := by decide +kernel
theorem dX10_calls_60 : decode cX10_calls 60 = .ok (.bipush 15, 2) := by decide +kernel
theorem dX10_calls_62 : decode cX10_calls 62 = .ok (.if_icmp .ne 25, 3) := by decide +kernel
theorem dX10_calls_65 : decode cX10_calls 65 = .ok (.aload_n 0, 1) := by decide +kernel
theorem dX10_calls_66 : decode cX10_calls 66 = .ok (.getfield 13, 3) := by decide +kernel
theorem dX10_calls_69 : decode cX10_calls 69 = .ok (.iload 5, 2) := by decide +kernel
theorem dX10_calls_71 : decode cX10_calls 71 = .ok (.iaload, 1) := by decide +kernel
theorem dX10_calls_72 : decode cX10_calls 72 = .ok (.bipush 10, 2) := by decide +kernel
theorem dX10_calls_74 : decode cX10_calls 74 = .ok (.aload_n 0, 1) := by decide +kernel
theorem dX10_calls_75 : decode cX10_calls 75 = .ok (.getfield 13, 3) := by decide +kernel
theorem dX10_calls_78 : decode cX10_calls 78 = .ok (.iload_n 2, 1) := by decide +kernel
theorem dX10_calls_79 : decode cX10_calls 79 = .ok (.iaload, 1) := by decide +kernel
theorem dX10_calls_80 : decode cX10_calls 80 = .ok (.imul, 1) := by decide +kernel
theorem dX10_calls_81 : decode cX10_calls 81 = .ok (.iload 4, 2) := by decide +kernel
theorem dX10_calls_83 : decode cX10_calls 83 = .ok (.iadd, 1) := by decide +kernel
theorem dX10_calls_84 : decode cX10_calls 84 = .ok (.if_icmp .eq 9, 3) := by decide +kernel
theorem dX10_calls_87 : decode cX10_calls 87 = .ok (.iinc 5 1, 3) := by decide +kernel
theorem dX10_calls_90 : decode cX10_calls 90 = .ok (.goto (-46), 3) := by decide +kernel
theorem dX10_calls_93 : decode cX10_calls 93 = .ok (.iload 5, 2) := by decide +kernel
theorem dX10_calls_95 : decode cX10_calls 95 = .ok (.aload_n 0, 1) := by decide +kernel
theorem dX10_calls_96 : decode cX10_calls 96 = .ok (.getfield 127, 3) := by decide +kernel
theorem dX10_calls_99 : decode cX10_calls 99 = .ok (.if_icmp .ge 49, 3) := by decide +kernel
theorem dX10_calls_102 : decode cX10_calls 102 = .ok (.aload_n 0, 1) := by decide +kernel
theorem dX10_calls_103 : decode cX10_calls 103 = .ok (.iload 5, 2) := by decide +kernel
theorem dX10_calls_105 : decode cX10_calls 105 = .ok (.iconst 0, 1) := by decide +kernel
theorem dX10_calls_106 : decode cX10_calls 106 = .ok (.iload_n 3, 1) := by decide +kernel
theorem dX10_calls_107 : decode cX10_calls 107 = .ok (.aload_n 0, 1) := by decide +kernel
theorem dX10_calls_108 : decode cX10_calls 108 = .ok (.getfield 67, 3) := by decide +kernel
theorem dX10_calls_111 : decode cX10_calls 111 = .ok (.iconst 3, 1) := by decide +kernel
theorem dX10_calls_112 : decode cX10_calls 112 = .ok (.iload_n 1, 1) := by decide +kernel
theorem dX10_calls_113 : decode cX10_calls 113 = .ok (.imul, 1) := by decide +kernel
theorem dX10_calls_114 : decode cX10_calls 114 = .ok (.iload 4, 2) := by decide +kernel
theorem dX10_calls_116 : decode cX10_calls 116 = .ok (.iadd, 1) := by decide +kernel
theorem dX10_calls_117 : decode cX10_calls 117 = .ok (.iaload, 1) := by decide +kernel
theorem dX10_calls_118 : decode cX10_calls 118 = .ok (.aload_n 0, 1) := by decide +kernel
theorem dX10_calls_119 : decode cX10_calls 119 = .ok (.getfield 70, 3) := by decide +kernel
theorem dX10_calls_122 : decode cX10_calls 122 = .ok (.iconst 3, 1) := by decide +kernel
theorem dX10_calls_123 : decode cX10_calls 123 = .ok (.iload_n 1, 1) := by decide +kernel
theorem dX10_calls_124 : decode cX10_calls 124 = .ok (.imul, 1) := by decide +kernel
theorem dX10_calls_125 : decode cX10_calls 125 = .ok (.iload 4, 2) := by decide +kernel
theorem dX10_calls_127 : decode cX10_calls 127 = .ok (.iadd, 1) := by decide +kernel
theorem dX10_calls_128 : decode cX10_calls 128 = .ok (.iaload, 1) := by decide +kernel
theorem dX10_calls_129 : decode cX10_calls 129 = .ok (.aload_n 0, 1) := by decide +kernel
theorem dX10_calls_130 : decode cX10_calls 130 = .ok (.getfield 73, 3) := by decide +kernel
theorem dX10_calls_133 : decode cX10_calls 133 = .ok (.iconst 3, 1) := by decide +kernel
theorem dX10_calls_134 : decode cX10_calls 134 = .ok (.iload_n 1, 1) := by decide +kernel
theorem dX10_calls_135 : decode cX10_calls 135 = .ok (.imul, 1) := by decide +kernel
theorem dX10_calls_136 : decode cX10_calls 136 = .ok (.iload 4, 2) := by decide +kernel
theorem dX10_calls_138 : decode cX10_calls 138 = .ok (.iadd, 1) := by decide +kernel
theorem dX10_calls_139 : decode cX10_calls 139 = .ok (.iaload, 1) := by decide +kernel
theorem dX10_calls_140 : decode cX10_calls 140 = .ok (.invokevirtual 178, 3) := by decide +kernel
theorem dX10_calls_143 : decode cX10_calls 143 = .ok (.ifCond .ne 5, 3) := by decide +kernel
theorem dX10_calls_146 : decode cX10_calls 146 = .ok (.iconst 0, 1) := by decide +kernel
theorem dX10_calls_147 : decode cX10_calls 147 = .ok (.ireturn, 1) := by decide +kernel
theorem dX10_calls_148 : decode cX10_calls 148 = .ok (.iinc 4 1, 3) := by decide +kernel
theorem dX10_calls_151 : decode cX10_calls 151 = .ok (.goto (-121), 3) := by decide +kernel
theorem dX10_calls_154 : decode cX10_calls 154 = .ok (.iconst 1, 1) := by decide +kernel
theorem dX10_calls_155 : decode cX10_calls 155 = .ok (.ireturn, 1) := by decide +kernel
theorem dX10_returns_0 : decode cX10_returns 0 = .ok (.aload_n 0, 1) := by decide +kernel
theorem dX10_returns_1 : decode cX10_returns 1 = .ok (.getfield 55, 3) := by decide +kernel
theorem dX10_returns_4 : decode cX10_returns 4 = .ok (.iload_n 1, 1) := by decide +kernel
theorem dX10_returns_5 : decode cX10_returns 5 = .ok (.iaload, 1) := by decide +kernel
theorem dX10_returns_6 : decode cX10_returns 6 = .ok (.istore_n 2, 1) := by decide +kernel
theorem dX10_returns_7 : decode cX10_returns 7 = .ok (.aload_n 0, 1) := by decide +kernel
theorem dX10_returns_8 : decode cX10_returns 8 = .ok (.getfield 40, 3) := by decide +kernel
theorem dX10_returns_11 : decode cX10_returns 11 = .ok (.iload_n 2, 1) := by decide +kernel
theorem dX10_returns_12 : decode cX10_returns 12 = .ok (.iaload, 1) := by decide +kernel
theorem dX10_returns_13 : decode cX10_returns 13 = .ok (.iconst 2, 1) := by decide +kernel
theorem dX10_returns_14 : decode cX10_returns 14 = .ok (.if_icmp .eq 15, 3) := by decide +kernel
theorem dX10_returns_17 : decode cX10_returns 17 = .ok (.aload_n 0, 1) := by decide +kernel
theorem dX10_returns_18 : decode cX10_returns 18 = .ok (.dup, 1) := by decide +kernel
theorem dX10_returns_19 : decode cX10_returns 19 = .ok (.getfield 218, 3) := by decide +kernel
theorem dX10_returns_22 : decode cX10_returns 22 = .ok (.iconst 1, 1) := by decide +kernel
theorem dX10_returns_23 : decode cX10_returns 23 = .ok (.iadd, 1) := by decide +kernel
theorem dX10_returns_24 : decode cX10_returns 24 = .ok (.putfield 218, 3) := by decide +kernel
theorem dX10_returns_27 : decode cX10_returns 27 = .ok (.iconst 1, 1) := by decide +kernel
theorem dX10_returns_28 : decode cX10_returns 28 = .ok (.ireturn, 1) := by decide +kernel
theorem dX10_returns_29 : decode cX10_returns 29 = .ok (.aload_n 0, 1) := by decide +kernel
theorem dX10_returns_30 : decode cX10_returns 30 = .ok (.aload_n 0, 1) := by decide +kernel
theorem dX10_returns_31 : decode cX10_returns 31 = .ok (.getfield 43, 3) := by decide +kernel
theorem dX10_returns_34 : decode cX10_returns 34 = .ok (.iload_n 2, 1) := by decide +kernel
theorem dX10_returns_35 : decode cX10_returns 35 = .ok (.iaload, 1) := by decide +kernel
theorem dX10_returns_36 : decode cX10_returns 36 = .ok (.iconst 0, 1) := by decide +kernel
theorem dX10_returns_37 : decode cX10_returns 37 = .ok (.aload_n 0, 1) := by decide +kernel
theorem dX10_returns_38 : decode cX10_returns 38 = .ok (.getfield 49, 3) := by decide +kernel
theorem dX10_returns_41 : decode cX10_returns 41 = .ok (.iload_n 2, 1) := by decide +kernel
theorem dX10_returns_42 : decode cX10_returns 42 = .ok (.iaload, 1) := by decide +kernel
theorem dX10_returns_43 : decode cX10_returns 43 = .ok (.aload_n 0, 1) := by decide +kernel
theorem dX10_returns_44 : decode cX10_returns 44 = .ok (.getfield 67, 3) := by decide +kernel
theorem dX10_returns_47 : decode cX10_returns 47 = .ok (.iconst 3, 1) := by decide +kernel
theorem dX10_returns_48 : decode cX10_returns 48 = .ok (.iload_n 1, 1) := by decide +kernel
theorem dX10_returns_49 : decode cX10_returns 49 = .ok (.imul, 1) := by decide +kernel
theorem dX10_returns_50 : decode cX10_returns 50 = .ok (.iaload, 1) := by decide +kernel
theorem dX10_returns_51 : decode cX10_returns 51 = .ok (.aload_n 0, 1) := by decide +kernel
theorem dX10_returns_52 : decode cX10_returns 52 = .ok (.getfield 70, 3) := by decide +kernel
theorem dX10_returns_55 : decode cX10_returns 55 = .ok (.iconst 3, 1) := by decide +kernel
theorem dX10_returns_56 : decode cX10_returns 56 = .ok (.iload_n 1, 1) := by decide +kernel
theorem dX10_returns_57 : decode cX10_returns 57 = .ok (.imul, 1) := by decide +kernel
theorem dX10_returns_58 : decode cX10_returns 58 = .ok (.iaload, 1) := by decide +kernel
theorem dX10_returns_59 : decode cX10_returns 59 = .ok (.aload_n 0, 1) := by decide +kernel
theorem dX10_returns_60 : decode cX10_returns 60 = .ok (.getfield 73, 3) := by decide +kernel
theorem dX10_returns_63 : decode cX10_returns 63 = .ok (.iconst 3, 1) := by decide +kernel
theorem dX10_returns_64 : decode cX10_returns 64 = .ok (.iload_n 1, 1) := by decide +kernel
theorem dX10_returns_65 : decode cX10_returns 65 = .ok (.imul, 1) := by decide +kernel
theorem dX10_returns_66 : decode cX10_returns 66 = .ok (.iaload, 1) := by decide +kernel
theorem dX10_returns_67 : decode cX10_returns 67 = .ok (.invokevirtual 182, 3) := by decide +kernel
theorem dX10_returns_70 : decode cX10_returns 70 = .ok (.ireturn, 1) := by decide +kernel
theorem dX10_ends_0 : decode cX10_ends 0 = .ok (.aload_n 0, 1) := by decide +kernel
theorem dX10_ends_1 : decode cX10_ends 1 = .ok (.getfield 13, 3) := by decide +kernel
theorem dX10_ends_4 : decode cX10_ends 4 = .ok (.aload_n 0, 1) := by decide +kernel
theorem dX10_ends_5 : decode cX10_ends 5 = .ok (.getfield 52, 3) := by decide +kernel
theorem dX10_ends_8 : decode cX10_ends 8 = .ok (.iload_n 1, 1) := by decide +kernel
theorem dX10_ends_9 : decode cX10_ends 9 = .ok (.iaload, 1) := by decide +kernel
theorem dX10_ends_10 : decode cX10_ends 10 = .ok (.iaload, 1) := by decide +kernel
theorem dX10_ends_11 : decode cX10_ends 11 = .ok (.istore_n 2, 1) := by decide +kernel
theorem dX10_ends_12 : decode cX10_ends 12 = .ok (.aload_n 0, 1) := by decide +kernel
theorem dX10_ends_13 : decode cX10_ends 13 = .ok (.getfield 55, 3) := by decide +kernel
theorem dX10_ends_16 : decode cX10_ends 16 = .ok (.iload_n 1, 1) := by decide +kernel
theorem dX10_ends_17 : decode cX10_ends 17 = .ok (.iaload, 1) := by decide +kernel
theorem dX10_ends_18 : decode cX10_ends 18 = .ok (.ifCond .eq 15, 3) := by decide +kernel
theorem dX10_ends_21 : decode cX10_ends 21 = .ok (.aload_n 0, 1) := by decide +kernel
theorem dX10_ends_22 : decode cX10_ends 22 = .ok (.dup, 1) := by decide +kernel
theorem dX10_ends_23 : decode cX10_ends 23 = .ok (.getfield 231, 3) := by decide +kernel
theorem dX10_ends_26 : decode cX10_ends 26 = .ok (.iconst 1, 1) := by decide +kernel
theorem dX10_ends_27 : decode cX10_ends 27 = .ok (.iadd, 1) := by decide +kernel
theorem dX10_ends_28 : decode cX10_ends 28 = .ok (.putfield 231, 3) := by decide +kernel
theorem dX10_ends_31 : decode cX10_ends 31 = .ok (.iconst 1, 1) := by decide +kernel
theorem dX10_ends_32 : decode cX10_ends 32 = .ok (.ireturn, 1) := by decide +kernel
theorem dX10_ends_33 : decode cX10_ends 33 = .ok (.aload_n 0, 1) := by decide +kernel
theorem dX10_ends_34 : decode cX10_ends 34 = .ok (.getfield 112, 3) := by decide +kernel
theorem dX10_ends_37 : decode cX10_ends 37 = .ok (.iload_n 2, 1) := by decide +kernel
theorem dX10_ends_38 : decode cX10_ends 38 = .ok (.iaload, 1) := by decide +kernel
theorem dX10_ends_39 : decode cX10_ends 39 = .ok (.ifCond .le 15, 3) := by decide +kernel
theorem dX10_ends_42 : decode cX10_ends 42 = .ok (.aload_n 0, 1) := by decide +kernel
theorem dX10_ends_43 : decode cX10_ends 43 = .ok (.iconst 1, 1) := by decide +kernel
theorem dX10_ends_44 : decode cX10_ends 44 = .ok (.aload_n 0, 1) := by decide +kernel
theorem dX10_ends_45 : decode cX10_ends 45 = .ok (.getfield 52, 3) := by decide +kernel
theorem dX10_ends_48 : decode cX10_ends 48 = .ok (.iload_n 1, 1) := by decide +kernel
theorem dX10_ends_49 : decode cX10_ends 49 = .ok (.iaload, 1) := by decide +kernel
theorem dX10_ends_50 : decode cX10_ends 50 = .ok (.invokevirtual 165, 3) := by decide +kernel
theorem dX10_ends_53 : decode cX10_ends 53 = .ok (.ireturn, 1) := by decide +kernel
theorem dX10_ends_54 : decode cX10_ends 54 = .ok (.aload_n 0, 1) := by decide +kernel
theorem dX10_ends_55 : decode cX10_ends 55 = .ok (.getfield 112, 3) := by decide +kernel
theorem dX10_ends_58 : decode cX10_ends 58 = .ok (.iload_n 2, 1) := by decide +kernel
theorem dX10_ends_59 : decode cX10_ends 59 = .ok (.aload_n 0, 1) := by decide +kernel
theorem dX10_ends_60 : decode cX10_ends 60 = .ok (.getfield 67, 3) := by decide +kernel
theorem dX10_ends_63 : decode cX10_ends 63 = .ok (.iconst 3, 1) := by decide +kernel
theorem dX10_ends_64 : decode cX10_ends 64 = .ok (.iload_n 1, 1) := by decide +kernel
theorem dX10_ends_65 : decode cX10_ends 65 = .ok (.imul, 1) := by decide +kernel
theorem dX10_ends_66 : decode cX10_ends 66 = .ok (.iaload, 1) := by decide +kernel
theorem dX10_ends_67 : decode cX10_ends 67 = .ok (.iastore, 1) := by decide +kernel
theorem dX10_ends_68 : decode cX10_ends 68 = .ok (.aload_n 0, 1) := by decide +kernel
theorem dX10_ends_69 : decode cX10_ends 69 = .ok (.getfield 115, 3) := by decide +kernel
theorem dX10_ends_72 : decode cX10_ends 72 = .ok (.iload_n 2, 1) := by decide +kernel
theorem dX10_ends_73 : decode cX10_ends 73 = .ok (.aload_n 0, 1) := by decide +kernel
theorem dX10_ends_74 : decode cX10_ends 74 = .ok (.getfield 70, 3) := by decide +kernel
theorem dX10_ends_77 : decode cX10_ends 77 = .ok (.iconst 3, 1) := by decide +kernel
theorem dX10_ends_78 : decode cX10_ends 78 = .ok (.iload_n 1, 1) := by decide +kernel
theorem dX10_ends_79 : decode cX10_ends 79 = .ok (.imul, 1) := by decide +kernel
theorem dX10_ends_80 : decode cX10_ends 80 = .ok (.iaload, 1) := by decide +kernel
theorem dX10_ends_81 : decode cX10_ends 81 = .ok (.iastore, 1) := by decide +kernel
theorem dX10_ends_82 : decode cX10_ends 82 = .ok (.aload_n 0, 1) := by decide +kernel
theorem dX10_ends_83 : decode cX10_ends 83 = .ok (.getfield 118, 3) := by decide +kernel
theorem dX10_ends_86 : decode cX10_ends 86 = .ok (.iload_n 2, 1) := by decide +kernel
theorem dX10_ends_87 : decode cX10_ends 87 = .ok (.aload_n 0, 1) := by decide +kernel
theorem dX10_ends_88 : decode cX10_ends 88 = .ok (.getfield 73, 3) := by decide +kernel
theorem dX10_ends_91 : decode cX10_ends 91 = .ok (.iconst 3, 1) := by decide +kernel
theorem dX10_ends_92 : decode cX10_ends 92 = .ok (.iload_n 1, 1) := by decide +kernel
theorem dX10_ends_93 : decode cX10_ends 93 = .ok (.imul, 1) := by decide +kernel
theorem dX10_ends_94 : decode cX10_ends 94 = .ok (.iaload, 1) := by decide +kernel
theorem dX10_ends_95 : decode cX10_ends 95 = .ok (.iastore, 1) := by decide +kernel
theorem dX10_ends_96 : decode cX10_ends 96 = .ok (.iconst 1, 1) := by decide +kernel
theorem dX10_ends_97 : decode cX10_ends 97 = .ok (.ireturn, 1) := by decide +kernel
theorem dX10_reckons_0 : decode cX10_reckons 0 = .ok (.aload_n 0, 1) := by decide +kernel
theorem dX10_reckons_1 : decode cX10_reckons 1 = .ok (.getfield 52, 3) := by decide +kernel
theorem dX10_reckons_4 : decode cX10_reckons 4 = .ok (.iload_n 1, 1) := by decide +kernel
theorem dX10_reckons_5 : decode cX10_reckons 5 = .ok (.iaload, 1) := by decide +kernel
theorem dX10_reckons_6 : decode cX10_reckons 6 = .ok (.istore_n 3, 1) := by decide +kernel
theorem dX10_reckons_7 : decode cX10_reckons 7 = .ok (.aload_n 0, 1) := by decide +kernel
theorem dX10_reckons_8 : decode cX10_reckons 8 = .ok (.getfield 55, 3) := by decide +kernel
theorem dX10_reckons_11 : decode cX10_reckons 11 = .ok (.iload_n 1, 1) := by decide +kernel
theorem dX10_reckons_12 : decode cX10_reckons 12 = .ok (.iaload, 1) := by decide +kernel
theorem dX10_reckons_13 : decode cX10_reckons 13 = .ok (.istore 4, 2) := by decide +kernel
theorem dX10_reckons_15 : decode cX10_reckons 15 = .ok (.aload_n 0, 1) := by decide +kernel
theorem dX10_reckons_16 : decode cX10_reckons 16 = .ok (.iload_n 1, 1) := by decide +kernel
theorem dX10_reckons_17 : decode cX10_reckons 17 = .ok (.iconst 0, 1) := by decide +kernel
theorem dX10_reckons_18 : decode cX10_reckons 18 = .ok (.invokevirtual 221, 3) := by decide +kernel
theorem dX10_reckons_21 : decode cX10_reckons 21 = .ok (.istore 5, 2) := by decide +kernel
theorem dX10_reckons_23 : decode cX10_reckons 23 = .ok (.aload_n 0, 1) := by decide +kernel
theorem dX10_reckons_24 : decode cX10_reckons 24 = .ok (.iload_n 1, 1) := by decide +kernel
theorem dX10_reckons_25 : decode cX10_reckons 25 = .ok (.iconst 1, 1) := by decide +kernel
theorem dX10_reckons_26 : decode cX10_reckons 26 = .ok (.invokevirtual 221, 3) := by decide +kernel
theorem dX10_reckons_29 : decode cX10_reckons 29 = .ok (.istore 6, 2) := by decide +kernel
