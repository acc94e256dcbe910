theorem dX4_copyFigures_14 : decode cX4_copyFigures 14 = .ok (.i2l, 1) := by decide +kernel
theorem dX4_copyFigures_15 : decode cX4_copyFigures 15 = .ok (.lastore, 1) := by decide +kernel
theorem dX4_copyFigures_16 : decode cX4_copyFigures 16 = .ok (.aload_n 1, 1) := by decide +kernel
theorem dX4_copyFigures_17 : decode cX4_copyFigures 17 = .ok (.iconst 2, 1) := by decide +kernel
theorem dX4_copyFigures_18 : decode cX4_copyFigures 18 = .ok (.aload_n 0, 1) := by decide +kernel
theorem dX4_copyFigures_19 : decode cX4_copyFigures 19 = .ok (.getfield 36, 3) := by decide +kernel
theorem dX4_copyFigures_22 : decode cX4_copyFigures 22 = .ok (.getfield 87, 3) := by decide +kernel
theorem dX4_copyFigures_25 : decode cX4_copyFigures 25 = .ok (.i2l, 1) := by decide +kernel
theorem dX4_copyFigures_26 : decode cX4_copyFigures 26 = .ok (.lastore, 1) := by decide +kernel
theorem dX4_copyFigures_27 : decode cX4_copyFigures 27 = .ok (.aload_n 1, 1) := by decide +kernel
theorem dX4_copyFigures_28 : decode cX4_copyFigures 28 = .ok (.iconst 3, 1) := by decide +kernel
theorem dX4_copyFigures_29 : decode cX4_copyFigures 29 = .ok (.aload_n 0, 1) := by decide +kernel
theorem dX4_copyFigures_30 : decode cX4_copyFigures 30 = .ok (.getfield 12, 3) := by decide +kernel
theorem dX4_copyFigures_33 : decode cX4_copyFigures 33 = .ok (.getfield 90, 3) := by decide +kernel
theorem dX4_copyFigures_36 : decode cX4_copyFigures 36 = .ok (.i2l, 1) := by decide +kernel
theorem dX4_copyFigures_37 : decode cX4_copyFigures 37 = .ok (.lastore, 1) := by decide +kernel
theorem dX4_copyFigures_38 : decode cX4_copyFigures 38 = .ok (.aload_n 1, 1) := by decide +kernel
theorem dX4_copyFigures_39 : decode cX4_copyFigures 39 = .ok (.iconst 4, 1) := by decide +kernel
theorem dX4_copyFigures_40 : decode cX4_copyFigures 40 = .ok (.aload_n 0, 1) := by decide +kernel
theorem dX4_copyFigures_41 : decode cX4_copyFigures 41 = .ok (.getfield 93, 3) := by decide +kernel
theorem dX4_copyFigures_44 : decode cX4_copyFigures 44 = .ok (.i2l, 1) := by decide +kernel
theorem dX4_copyFigures_45 : decode cX4_copyFigures 45 = .ok (.lastore, 1) := by decide +kernel
theorem dX4_copyFigures_46 : decode cX4_copyFigures 46 = .ok (.aload_n 1, 1) := by decide +kernel
theorem dX4_copyFigures_47 : decode cX4_copyFigures 47 = .ok (.iconst 5, 1) := by decide +kernel
theorem dX4_copyFigures_48 : decode cX4_copyFigures 48 = .ok (.aload_n 0, 1) := by decide +kernel
theorem dX4_copyFigures_49 : decode cX4_copyFigures 49 = .ok (.getfield 96, 3) := by decide +kernel
theorem dX4_copyFigures_52 : decode cX4_copyFigures 52 = .ok (.i2l, 1) := by decide +kernel
theorem dX4_copyFigures_53 : decode cX4_copyFigures 53 = .ok (.lastore, 1) := by decide +kernel
theorem dX4_copyFigures_54 : decode cX4_copyFigures 54 = .ok (.iconst 0, 1) := by decide +kernel
theorem dX4_copyFigures_55 : decode cX4_copyFigures 55 = .ok (.istore_n 2, 1) := by decide +kernel
theorem dX4_copyFigures_56 : decode cX4_copyFigures 56 = .ok (.iload_n 2, 1) := by decide +kernel
theorem dX4_copyFigures_57 : decode cX4_copyFigures 57 = .ok (.bipush 10, 2) := by decide +kernel
theorem dX4_copyFigures_59 : decode cX4_copyFigures 59 = .ok (.if_icmp .ge 25, 3) := by decide +kernel
theorem dX4_copyFigures_62 : decode cX4_copyFigures 62 = .ok (.aload_n 1, 1) := by decide +kernel
theorem dX4_copyFigures_63 : decode cX4_copyFigures 63 = .ok (.bipush 10, 2) := by decide +kernel
theorem dX4_copyFigures_65 : decode cX4_copyFigures 65 = .ok (.iload_n 2, 1) := by decide +kernel
theorem dX4_copyFigures_66 : decode cX4_copyFigures 66 = .ok (.iadd, 1) := by decide +kernel
theorem dX4_copyFigures_67 : decode cX4_copyFigures 67 = .ok (.aload_n 0, 1) := by decide +kernel
theorem dX4_copyFigures_68 : decode cX4_copyFigures 68 = .ok (.aload_n 0, 1) := by decide +kernel
theorem dX4_copyFigures_69 : decode cX4_copyFigures 69 = .ok (.getfield 22, 3) := by decide +kernel
theorem dX4_copyFigures_72 : decode cX4_copyFigures 72 = .ok (.iload_n 2, 1) := by decide +kernel
theorem dX4_copyFigures_73 : decode cX4_copyFigures 73 = .ok (.laload, 1) := by decide +kernel
theorem dX4_copyFigures_74 : decode cX4_copyFigures 74 = .ok (.invokevirtual 120, 3) := by decide +kernel
theorem dX4_copyFigures_77 : decode cX4_copyFigures 77 = .ok (.lastore, 1) := by decide +kernel
theorem dX4_copyFigures_78 : decode cX4_copyFigures 78 = .ok (.iinc 2 1, 3) := by decide +kernel
theorem dX4_copyFigures_81 : decode cX4_copyFigures 81 = .ok (.goto (-25), 3) := by decide +kernel
theorem dX4_copyFigures_84 : decode cX4_copyFigures 84 = .ok (.iconst 0, 1) := by decide +kernel
theorem dX4_copyFigures_85 : decode cX4_copyFigures 85 = .ok (.istore_n 2, 1) := by decide +kernel
theorem dX4_copyFigures_86 : decode cX4_copyFigures 86 = .ok (.iload_n 2, 1) := by decide +kernel
theorem dX4_copyFigures_87 : decode cX4_copyFigures 87 = .ok (.bipush 80, 2) := by decide +kernel
theorem dX4_copyFigures_89 : decode cX4_copyFigures 89 = .ok (.if_icmp .ge 22, 3) := by decide +kernel
theorem dX4_copyFigures_92 : decode cX4_copyFigures 92 = .ok (.aload_n 1, 1) := by decide +kernel
theorem dX4_copyFigures_93 : decode cX4_copyFigures 93 = .ok (.bipush 20, 2) := by decide +kernel
theorem dX4_copyFigures_95 : decode cX4_copyFigures 95 = .ok (.iload_n 2, 1) := by decide +kernel
theorem dX4_copyFigures_96 : decode cX4_copyFigures 96 = .ok (.iadd, 1) := by decide +kernel
theorem dX4_copyFigures_97 : decode cX4_copyFigures 97 = .ok (.aload_n 0, 1) := by decide +kernel
theorem dX4_copyFigures_98 : decode cX4_copyFigures 98 = .ok (.getfield 18, 3) := by decide +kernel
theorem dX4_copyFigures_101 : decode cX4_copyFigures 101 = .ok (.iload_n 2, 1) := by decide +kernel
theorem dX4_copyFigures_102 : decode cX4_copyFigures 102 = .ok (.iaload, 1) := by decide +kernel
theorem dX4_copyFigures_103 : decode cX4_copyFigures 103 = .ok (.i2l, 1) := by decide +kernel
theorem dX4_copyFigures_104 : decode cX4_copyFigures 104 = .ok (.lastore, 1) := by decide +kernel
theorem dX4_copyFigures_105 : decode cX4_copyFigures 105 = .ok (.iinc 2 1, 3) := by decide +kernel
theorem dX4_copyFigures_108 : decode cX4_copyFigures 108 = .ok (.goto (-22), 3) := by decide +kernel
theorem dX4_copyFigures_111 : decode cX4_copyFigures 111 = .ok (.return_, 1) := by decide +kernel
theorem dX4_comparable_0 : decode cX4_comparable 0 = .ok (.lload_n 1, 1) := by decide +kernel
theorem dX4_comparable_1 : decode cX4_comparable 1 = .ok (.invokestatic 105, 3) := by decide +kernel
theorem dX4_comparable_4 : decode cX4_comparable 4 = .ok (.iconst 2, 1) := by decide +kernel
theorem dX4_comparable_5 : decode cX4_comparable 5 = .ok (.if_icmp .eq 5, 3) := by decide +kernel
theorem dX4_comparable_8 : decode cX4_comparable 8 = .ok (.lload_n 1, 1) := by decide +kernel
theorem dX4_comparable_9 : decode cX4_comparable 9 = .ok (.lreturn, 1) := by decide +kernel
theorem dX4_comparable_10 : decode cX4_comparable 10 = .ok (.aload_n 0, 1) := by decide +kernel
theorem dX4_comparable_11 : decode cX4_comparable 11 = .ok (.getfield 12, 3) := by decide +kernel
theorem dX4_comparable_14 : decode cX4_comparable 14 = .ok (.lload_n 1, 1) := by decide +kernel
theorem dX4_comparable_15 : decode cX4_comparable 15 = .ok (.invokestatic 111, 3) := by decide +kernel
theorem dX4_comparable_18 : decode cX4_comparable 18 = .ok (.invokevirtual 114, 3) := by decide +kernel
theorem dX4_comparable_21 : decode cX4_comparable 21 = .ok (.invokestatic 124, 3) := by decide +kernel
theorem dX4_comparable_24 : decode cX4_comparable 24 = .ok (.lreturn, 1) := by decide +kernel
theorem dX4_begin_0 : decode cX4_begin 0 = .ok (.aload_n 0, 1) := by decide +kernel
theorem dX4_begin_1 : decode cX4_begin 1 = .ok (.getfield 29, 3) := by decide +kernel
theorem dX4_begin_4 : decode cX4_begin 4 = .ok (.invokevirtual 128, 3) := by decide +kernel
theorem dX4_begin_7 : decode cX4_begin 7 = .ok (.aload_n 0, 1) := by decide +kernel
theorem dX4_begin_8 : decode cX4_begin 8 = .ok (.getfield 36, 3) := by decide +kernel
theorem dX4_begin_11 : decode cX4_begin 11 = .ok (.invokevirtual 131, 3) := by decide +kernel
theorem dX4_begin_14 : decode cX4_begin 14 = .ok (.aload_n 0, 1) := by decide +kernel
theorem dX4_begin_15 : decode cX4_begin 15 = .ok (.getfield 43, 3) := by decide +kernel
theorem dX4_begin_18 : decode cX4_begin 18 = .ok (.invokevirtual 132, 3) := by decide +kernel
theorem dX4_begin_21 : decode cX4_begin 21 = .ok (.aload_n 0, 1) := by decide +kernel
theorem dX4_begin_22 : decode cX4_begin 22 = .ok (.getfield 12, 3) := by decide +kernel
theorem dX4_begin_25 : decode cX4_begin 25 = .ok (.invokevirtual 133, 3) := by decide +kernel
theorem dX4_begin_28 : decode cX4_begin 28 = .ok (.aload_n 0, 1) := by decide +kernel
theorem dX4_begin_29 : decode cX4_begin 29 = .ok (.getfield 18, 3) := by decide +kernel
theorem dX4_begin_32 : decode cX4_begin 32 = .ok (.iconst 0, 1) := by decide +kernel
theorem dX4_begin_33 : decode cX4_begin 33 = .ok (.invokestatic 134, 3) := by decide +kernel
theorem dX4_begin_36 : decode cX4_begin 36 = .ok (.aload_n 0, 1) := by decide +kernel
theorem dX4_begin_37 : decode cX4_begin 37 = .ok (.getfield 22, 3) := by decide +kernel
theorem dX4_begin_40 : decode cX4_begin 40 = .ok (.lconst 0, 1) := by decide +kernel
theorem dX4_begin_41 : decode cX4_begin 41 = .ok (.invokestatic 140, 3) := by decide +kernel
theorem dX4_begin_44 : decode cX4_begin 44 = .ok (.aload_n 0, 1) := by decide +kernel
theorem dX4_begin_45 : decode cX4_begin 45 = .ok (.iconst (-1), 1) := by decide +kernel
theorem dX4_begin_46 : decode cX4_begin 46 = .ok (.putfield 78, 3) := by decide +kernel
theorem dX4_begin_49 : decode cX4_begin 49 = .ok (.aload_n 0, 1) := by decide +kernel
theorem dX4_begin_50 : decode cX4_begin 50 = .ok (.iconst 0, 1) := by decide +kernel
theorem dX4_begin_51 : decode cX4_begin 51 = .ok (.putfield 71, 3) := by decide +kernel
theorem dX4_begin_54 : decode cX4_begin 54 = .ok (.aload_n 0, 1) := by decide +kernel
theorem dX4_begin_55 : decode cX4_begin 55 = .ok (.iconst 0, 1) := by decide +kernel
theorem dX4_begin_56 : decode cX4_begin 56 = .ok (.putfield 84, 3) := by decide +kernel
theorem dX4_begin_59 : decode cX4_begin 59 = .ok (.aload_n 0, 1) := by decide +kernel
theorem dX4_begin_60 : decode cX4_begin 60 = .ok (.iconst 0, 1) := by decide +kernel
theorem dX4_begin_61 : decode cX4_begin 61 = .ok (.putfield 75, 3) := by decide +kernel
theorem dX4_begin_64 : decode cX4_begin 64 = .ok (.aload_n 0, 1) := by decide +kernel
theorem dX4_begin_65 : decode cX4_begin 65 = .ok (.iconst 0, 1) := by decide +kernel
theorem dX4_begin_66 : decode cX4_begin 66 = .ok (.putfield 93, 3) := by decide +kernel
theorem dX4_begin_69 : decode cX4_begin 69 = .ok (.aload_n 0, 1) := by decide +kernel
theorem dX4_begin_70 : decode cX4_begin 70 = .ok (.iconst 0, 1) := by decide +kernel
theorem dX4_begin_71 : decode cX4_begin 71 = .ok (.putfield 96, 3) := by decide +kernel
theorem dX4_begin_74 : decode cX4_begin 74 = .ok (.aload_n 0, 1) := by decide +kernel
theorem dX4_begin_75 : decode cX4_begin 75 = .ok (.iconst (-1), 1) := by decide +kernel
theorem dX4_begin_76 : decode cX4_begin 76 = .ok (.putfield 102, 3) := by decide +kernel
theorem dX4_begin_79 : decode cX4_begin 79 = .ok (.iconst 0, 1) := by decide +kernel
theorem dX4_begin_80 : decode cX4_begin 80 = .ok (.istore_n 1, 1) := by decide +kernel
theorem dX4_begin_81 : decode cX4_begin 81 = .ok (.iload_n 1, 1) := by decide +kernel
theorem dX4_begin_82 : decode cX4_begin 82 = .ok (.aload_n 0, 1) := by decide +kernel
theorem dX4_begin_83 : decode cX4_begin 83 = .ok (.getfield 47, 3) := by decide +kernel
theorem dX4_begin_86 : decode cX4_begin 86 = .ok (.getfield 143, 3) := by decide +kernel
theorem dX4_begin_89 : decode cX4_begin 89 = .ok (.if_icmp .ge 54, 3) := by decide +kernel
theorem dX4_begin_92 : decode cX4_begin 92 = .ok (.aload_n 0, 1) := by decide +kernel
theorem dX4_begin_93 : decode cX4_begin 93 = .ok (.getfield 78, 3) := by decide +kernel
theorem dX4_begin_96 : decode cX4_begin 96 = .ok (.iconst (-1), 1) := by decide +kernel
theorem dX4_begin_97 : decode cX4_begin 97 = .ok (.if_icmp .ne 46, 3) := by decide +kernel
theorem dX4_begin_100 : decode cX4_begin 100 = .ok (.aload_n 0, 1) := by decide +kernel
theorem dX4_begin_101 : decode cX4_begin 101 = .ok (.getfield 47, 3) := by decide +kernel
theorem dX4_begin_104 : decode cX4_begin 104 = .ok (.getfield 148, 3) := by decide +kernel
theorem dX4_begin_107 : decode cX4_begin 107 = .ok (.iload_n 1, 1) := by decide +kernel
theorem dX4_begin_108 : decode cX4_begin 108 = .ok (.iaload, 1) := by decide +kernel
theorem dX4_begin_109 : decode cX4_begin 109 = .ok (.invokestatic 151, 3) := by decide +kernel
theorem dX4_begin_112 : decode cX4_begin 112 = .ok (.lstore_n 2, 1) := by decide +kernel
theorem dX4_begin_113 : decode cX4_begin 113 = .ok (.aload_n 0, 1) := by decide +kernel
theorem dX4_begin_114 : decode cX4_begin 114 = .ok (.aload_n 0, 1) := by decide +kernel
theorem dX4_begin_115 : decode cX4_begin 115 = .ok (.getfield 47, 3) := by decide +kernel
theorem dX4_begin_118 : decode cX4_begin 118 = .ok (.getfield 154, 3) := by decide +kernel
theorem dX4_begin_121 : decode cX4_begin 121 = .ok (.iload_n 1, 1) := by decide +kernel
theorem dX4_begin_122 : decode cX4_begin 122 = .ok (.iaload, 1) := by decide +kernel
theorem dX4_begin_123 : decode cX4_begin 123 = .ok (.aload_n 0, 1) := by decide +kernel
theorem dX4_begin_124 : decode cX4_begin 124 = .ok (.getfield 47, 3) := by decide +kernel
theorem dX4_begin_127 : decode cX4_begin 127 = .ok (.getfield 157, 3) := by decide +kernel
theorem dX4_begin_130 : decode cX4_begin 130 = .ok (.iload_n 1, 1) := by decide +kernel
theorem dX4_begin_131 : decode cX4_begin 131 = .ok (.iaload, 1) := by decide +kernel
theorem dX4_begin_132 : decode cX4_begin 132 = .ok (.iconst 0, 1) := by decide +kernel
theorem dX4_begin_133 : decode cX4_begin 133 = .ok (.lload_n 2, 1) := by decide +kernel
theorem dX4_begin_134 : decode cX4_begin 134 = .ok (.invokevirtual 160, 3) := by decide +kernel
theorem dX4_begin_137 : decode cX4_begin 137 = .ok (.iinc 1 1, 3) := by decide +kernel
theorem dX4_begin_140 : decode cX4_begin 140 = .ok (.goto (-59), 3) := by decide +kernel
theorem dX4_begin_143 : decode cX4_begin 143 = .ok (.return_, 1) := by decide +kernel
theorem dX4_mayStep_0 : decode cX4_mayStep 0 = .ok (.aload_n 0, 1) := by decide +kernel
theorem dX4_mayStep_1 : decode cX4_mayStep 1 = .ok (.getfield 78, 3) := by decide +kernel
theorem dX4_mayStep_4 : decode cX4_mayStep 4 = .ok (.iconst (-1), 1) := by decide +kernel
theorem dX4_mayStep_5 : decode cX4_mayStep 5 = .ok (.if_icmp .ne 34, 3) := by decide +kernel
theorem dX4_mayStep_8 : decode cX4_mayStep 8 = .ok (.aload_n 0, 1) := by decide +kernel
theorem dX4_mayStep_9 : decode cX4_mayStep 9 = .ok (.getfield 43, 3) := by decide +kernel
theorem dX4_mayStep_12 : decode cX4_mayStep 12 = .ok (.invokevirtual 59, 3) := by decide +kernel
theorem dX4_mayStep_15 : decode cX4_mayStep 15 = .ok (.ifCond .ne 11, 3) := by decide +kernel
theorem dX4_mayStep_18 : decode cX4_mayStep 18 = .ok (.aload_n 0, 1) := by decide +kernel
theorem dX4_mayStep_19 : decode cX4_mayStep 19 = .ok (.iconst 0, 1) := by decide +kernel
theorem dX4_mayStep_20 : decode cX4_mayStep 20 = .ok (.putfield 78, 3) := by decide +kernel
theorem dX4_mayStep_23 : decode cX4_mayStep 23 = .ok (.goto 16, 3) := by decide +kernel
theorem dX4_mayStep_26 : decode cX4_mayStep 26 = .ok (.aload_n 0, 1) := by decide +kernel
theorem dX4_mayStep_27 : decode cX4_mayStep 27 = .ok (.getfield 71, 3) := by decide +kernel
theorem dX4_mayStep_30 : decode cX4_mayStep 30 = .ok (.iload_n 1, 1) := by decide +kernel
theorem dX4_mayStep_31 : decode cX4_mayStep 31 = .ok (.if_icmp .lt 8, 3) := by decide +kernel
theorem dX4_mayStep_34 : decode cX4_mayStep 34 = .ok (.aload_n 0, 1) := by decide +kernel
theorem dX4_mayStep_35 : decode cX4_mayStep 35 = .ok (.iconst 3, 1) := by decide +kernel
theorem dX4_mayStep_36 : decode cX4_mayStep 36 = .ok (.putfield 78, 3) := by decide +kernel
theorem dX4_mayStep_39 : decode cX4_mayStep 39 = .ok (.aload_n 0, 1) := by decide +kernel
theorem dX4_mayStep_40 : decode cX4_mayStep 40 = .ok (.getfield 78, 3) := by decide +kernel
theorem dX4_mayStep_43 : decode cX4_mayStep 43 = .ok (.iconst (-1), 1) := by decide +kernel
theorem dX4_mayStep_44 : decode cX4_mayStep 44 = .ok (.if_icmp .ne 7, 3) := by decide +kernel
theorem dX4_mayStep_47 : decode cX4_mayStep 47 = .ok (.iconst 1, 1) := by decide +kernel
theorem dX4_mayStep_48 : decode cX4_mayStep 48 = .ok (.goto 4, 3) := by decide +kernel
theorem dX4_mayStep_51 : decode cX4_mayStep 51 = .ok (.iconst 0, 1) := by decide +kernel
theorem dX4_mayStep_52 : decode cX4_mayStep 52 = .ok (.ireturn, 1) := by decide +kernel
theorem dX4_goTick_0 : decode cX4_goTick 0 = .ok (.aload_n 0, 1) := by decide +kernel
theorem dX4_goTick_1 : decode cX4_goTick 1 = .ok (.getfield 43, 3) := by decide +kernel
theorem dX4_goTick_4 : decode cX4_goTick 4 = .ok (.invokevirtual 59, 3) := by decide +kernel
theorem dX4_goTick_7 : decode cX4_goTick 7 = .ok (.istore_n 2, 1) := by decide +kernel
theorem dX4_goTick_8 : decode cX4_goTick 8 = .ok (.iconst 0, 1) := by decide +kernel
theorem dX4_goTick_9 : decode cX4_goTick 9 = .ok (.istore_n 3, 1) := by decide +kernel
theorem dX4_goTick_10 : decode cX4_goTick 10 = .ok (.iload_n 3, 1) := by decide +kernel
theorem dX4_goTick_11 : decode cX4_goTick 11 = .ok (.iload_n 2, 1) := by decide +kernel
theorem dX4_goTick_12 : decode cX4_goTick 12 = .ok (.if_icmp .ge 29, 3) := by decide +kernel
theorem dX4_goTick_15 : decode cX4_goTick 15 = .ok (.aload_n 0, 1) := by decide +kernel
theorem dX4_goTick_16 : decode cX4_goTick 16 = .ok (.iload_n 1, 1) := by decide +kernel
theorem dX4_goTick_17 : decode cX4_goTick 17 = .ok (.invokevirtual 54, 3) := by decide +kernel
theorem dX4_goTick_20 : decode cX4_goTick 20 = .ok (.ifCond .eq 21, 3) := by decide +kernel
theorem dX4_goTick_23 : decode cX4_goTick 23 = .ok (.aload_n 0, 1) := by decide +kernel
theorem dX4_goTick_24 : decode cX4_goTick 24 = .ok (.aload_n 0, 1) := by decide +kernel
theorem dX4_goTick_25 : decode cX4_goTick 25 = .ok (.getfield 43, 3) := by decide +kernel
theorem dX4_goTick_28 : decode cX4_goTick 28 = .ok (.iconst 0, 1) := by decide +kernel
theorem dX4_goTick_29 : decode cX4_goTick 29 = .ok (.invokevirtual 63, 3) := by decide +kernel
theorem dX4_goTick_32 : decode cX4_goTick 32 = .ok (.invokevirtual 67, 3) := by decide +kernel
theorem dX4_goTick_35 : decode cX4_goTick 35 = .ok (.iinc 3 1, 3) := by decide +kernel
theorem dX4_goTick_38 : decode cX4_goTick 38 = .ok (.goto (-28), 3) := by decide +kernel
theorem dX4_goTick_41 : decode cX4_goTick 41 = .ok (.aload_n 0, 1) := by decide +kernel
theorem dX4_goTick_42 : decode cX4_goTick 42 = .ok (.dup, 1) := by decide +kernel
theorem dX4_goTick_43 : decode cX4_goTick 43 = .ok (.getfield 84, 3) := by decide +kernel
theorem dX4_goTick_46 : decode cX4_goTick 46 = .ok (.iconst 1, 1) := by decide +kernel
theorem dX4_goTick_47 : decode cX4_goTick 47 = .ok (.iadd, 1) := by decide +kernel
theorem dX4_goTick_48 : decode cX4_goTick 48 = .ok (.putfield 84, 3) := by decide +kernel
theorem dX4_goTick_51 : decode cX4_goTick 51 = .ok (.aload_n 0, 1) := by decide +kernel
theorem dX4_goTick_52 : decode cX4_goTick 52 = .ok (.aload_n 0, 1) := by decide +kernel
theorem dX4_goTick_53 : decode cX4_goTick 53 = .ok (.getfield 75, 3) := by decide +kernel
theorem dX4_goTick_56 : decode cX4_goTick 56 = .ok (.iload_n 3, 1) := by decide +kernel
theorem dX4_goTick_57 : decode cX4_goTick 57 = .ok (.invokestatic 164, 3) := by decide +kernel
theorem dX4_goTick_60 : decode cX4_goTick 60 = .ok (.putfield 75, 3) := by decide +kernel
theorem dX4_goTick_63 : decode cX4_goTick 63 = .ok (.return_, 1) := by decide +kernel
theorem dX4_goOff_0 : decode cX4_goOff 0 = .ok (.iload_n 1, 1) := by decide +kernel
theorem dX4_goOff_1 : decode cX4_goOff 1 = .ok (.iconst (-1), 1) := by decide +kernel
theorem dX4_goOff_2 : decode cX4_goOff 2 = .ok (.if_icmp .ne 4, 3) := by decide +kernel
theorem dX4_goOff_5 : decode cX4_goOff 5 = .ok (.return_, 1) := by decide +kernel
theorem dX4_goOff_6 : decode cX4_goOff 6 = .ok (.aload_n 0, 1) := by decide +kernel
theorem dX4_goOff_7 : decode cX4_goOff 7 = .ok (.getfield 36, 3) := by decide +kernel
theorem dX4_goOff_10 : decode cX4_goOff 10 = .ok (.getfield 170, 3) := by decide +kernel
theorem dX4_goOff_13 : decode cX4_goOff 13 = .ok (.iload_n 1, 1) := by decide +kernel
theorem dX4_goOff_14 : decode cX4_goOff 14 = .ok (.iaload, 1) := by decide +kernel
theorem dX4_goOff_15 : decode cX4_goOff 15 = .ok (.istore_n 2, 1) := by decide +kernel
theorem dX4_goOff_16 : decode cX4_goOff 16 = .ok (.aload_n 0, 1) := by decide +kernel
theorem dX4_goOff_17 : decode cX4_goOff 17 = .ok (.getfield 36, 3) := by decide +kernel
theorem dX4_goOff_20 : decode cX4_goOff 20 = .ok (.getfield 172, 3) := by decide +kernel
theorem dX4_goOff_23 : decode cX4_goOff 23 = .ok (.iload_n 1, 1) := by decide +kernel
theorem dX4_goOff_24 : decode cX4_goOff 24 = .ok (.iaload, 1) := by decide +kernel
theorem dX4_goOff_25 : decode cX4_goOff 25 = .ok (.istore_n 3, 1) := by decide +kernel
theorem dX4_goOff_26 : decode cX4_goOff 26 = .ok (.aload_n 0, 1) := by decide +kernel
theorem dX4_goOff_27 : decode cX4_goOff 27 = .ok (.getfield 36, 3) := by decide +kernel
theorem dX4_goOff_30 : decode cX4_goOff 30 = .ok (.iload_n 1, 1) := by decide +kernel
theorem dX4_goOff_31 : decode cX4_goOff 31 = .ok (.iconst 0, 1) := by decide +kernel
theorem dX4_goOff_32 : decode cX4_goOff 32 = .ok (.invokevirtual 175, 3) := by decide +kernel
theorem dX4_goOff_35 : decode cX4_goOff 35 = .ok (.lstore 4, 2) := by decide +kernel
theorem dX4_goOff_37 : decode cX4_goOff 37 = .ok (.aload_n 0, 1) := by decide +kernel
theorem dX4_goOff_38 : decode cX4_goOff 38 = .ok (.dup, 1) := by decide +kernel
theorem dX4_goOff_39 : decode cX4_goOff 39 = .ok (.getfield 71, 3) := by decide +kernel
theorem dX4_goOff_42 : decode cX4_goOff 42 = .ok (.iconst 1, 1) := by decide +kernel
theorem dX4_goOff_43 : decode cX4_goOff 43 = .ok (.iadd, 1) := by decide +kernel
theorem dX4_goOff_44 : decode cX4_goOff 44 = .ok (.putfield 71, 3) := by decide +kernel
theorem dX4_goOff_47 : decode cX4_goOff 47 = .ok (.aload_n 0, 1) := by decide +kernel
theorem dX4_goOff_48 : decode cX4_goOff 48 = .ok (.getfield 18, 3) := by decide +kernel
theorem dX4_goOff_51 : decode cX4_goOff 51 = .ok (.iload_n 2, 1) := by decide +kernel
theorem dX4_goOff_52 : decode cX4_goOff 52 = .ok (.dup2, 1) := by decide +kernel
theorem dX4_goOff_53 : decode cX4_goOff 53 = .ok (.iaload, 1) := by decide +kernel
theorem dX4_goOff_54 : decode cX4_goOff 54 = .ok (.iconst 1, 1) := by decide +kernel
theorem dX4_goOff_55 : decode cX4_goOff 55 = .ok (.iadd, 1) := by decide +kernel
theorem dX4_goOff_56 : decode cX4_goOff 56 = .ok (.iastore, 1) := by decide +kernel
theorem dX4_goOff_57 : decode cX4_goOff 57 = .ok (.aload_n 0, 1) := by decide +kernel
theorem dX4_goOff_58 : decode cX4_goOff 58 = .ok (.getfield 47, 3) := by decide +kernel
theorem dX4_goOff_61 : decode cX4_goOff 61 = .ok (.getfield 179, 3) := by decide +kernel
theorem dX4_goOff_64 : decode cX4_goOff 64 = .ok (.iload_n 2, 1) := by decide +kernel
theorem dX4_goOff_65 : decode cX4_goOff 65 = .ok (.iaload, 1) := by decide +kernel
theorem dX4_goOff_66 : decode cX4_goOff 66 = .ok (.tableswitch 183 10 21 #[62, 82, 110, 110, 121, 183, 131, 141, 152, 162, 183, 172], 62) := by decide +kernel
theorem dX4_goOff_128 : decode cX4_goOff 128 = .ok (.aload_n 0, 1) := by decide +kernel
theorem dX4_goOff_129 : decode cX4_goOff 129 = .ok (.iload_n 2, 1) := by decide +kernel
theorem dX4_goOff_130 : decode cX4_goOff 130 = .ok (.iload_n 3, 1) := by decide +kernel
theorem dX4_goOff_131 : decode cX4_goOff 131 = .ok (.lload 4, 2) := by decide +kernel
theorem dX4_goOff_133 : decode cX4_goOff 133 = .ok (.aload_n 0, 1) := by decide +kernel
theorem dX4_goOff_134 : decode cX4_goOff 134 = .ok (.getfield 36, 3) := by decide +kernel
theorem dX4_goOff_137 : decode cX4_goOff 137 = .ok (.iload_n 1, 1) := by decide +kernel
theorem dX4_goOff_138 : decode cX4_goOff 138 = .ok (.iconst 1, 1) := by decide +kernel
theorem dX4_goOff_139 : decode cX4_goOff 139 = .ok (.invokevirtual 175, 3) := by decide +kernel
theorem dX4_goOff_142 : decode cX4_goOff 142 = .ok (.invokevirtual 182, 3) := by decide +kernel
theorem dX4_goOff_145 : decode cX4_goOff 145 = .ok (.goto 119, 3) := by decide +kernel
theorem dX4_goOff_148 : decode cX4_goOff 148 = .ok (.aload_n 0, 1) := by decide +kernel
theorem dX4_goOff_149 : decode cX4_goOff 149 = .ok (.iload_n 2, 1) := by decide +kernel
theorem dX4_goOff_150 : decode cX4_goOff 150 = .ok (.iconst 0, 1) := by decide +kernel
theorem dX4_goOff_151 : decode cX4_goOff 151 = .ok (.aload_n 0, 1) := by decide +kernel
theorem dX4_goOff_152 : decode cX4_goOff 152 = .ok (.getfield 29, 3) := by decide +kernel
theorem dX4_goOff_155 : decode cX4_goOff 155 = .ok (.iload_n 3, 1) := by decide +kernel
theorem dX4_goOff_156 : decode cX4_goOff 156 = .ok (.aload_n 0, 1) := by decide +kernel
theorem dX4_goOff_157 : decode cX4_goOff 157 = .ok (.getfield 47, 3) := by decide +kernel
theorem dX4_goOff_160 : decode cX4_goOff 160 = .ok (.getfield 186, 3) := by decide +kernel
theorem dX4_goOff_163 : decode cX4_goOff 163 = .ok (.iload_n 2, 1) := by decide +kernel
theorem dX4_goOff_164 : decode cX4_goOff 164 = .ok (.iaload, 1) := by decide +kernel
theorem dX4_goOff_165 : decode cX4_goOff 165 = .ok (.invokevirtual 189, 3) := by decide +kernel
theorem dX4_goOff_168 : decode cX4_goOff 168 = .ok (.lload 4, 2) := by decide +kernel
theorem dX4_goOff_170 : decode cX4_goOff 170 = .ok (.invokevirtual 192, 3) := by decide +kernel
theorem dX4_goOff_173 : decode cX4_goOff 173 = .ok (.goto 91, 3) := by decide +kernel
theorem dX4_goOff_176 : decode cX4_goOff 176 = .ok (.aload_n 0, 1) := by decide +kernel
theorem dX4_goOff_177 : decode cX4_goOff 177 = .ok (.iload_n 2, 1) := by decide +kernel
theorem dX4_goOff_178 : decode cX4_goOff 178 = .ok (.iload_n 3, 1) := by decide +kernel
theorem dX4_goOff_179 : decode cX4_goOff 179 = .ok (.lload 4, 2) := by decide +kernel
theorem dX4_goOff_181 : decode cX4_goOff 181 = .ok (.invokevirtual 195, 3) := by decide +kernel
theorem dX4_goOff_184 : decode cX4_goOff 184 = .ok (.goto 80, 3) := by decide +kernel
theorem dX4_goOff_187 : decode cX4_goOff 187 = .ok (.aload_n 0, 1) := by decide +kernel
theorem dX4_goOff_188 : decode cX4_goOff 188 = .ok (.iload_n 1, 1) := by decide +kernel
theorem dX4_goOff_189 : decode cX4_goOff 189 = .ok (.iload_n 2, 1) := by decide +kernel
theorem dX4_goOff_190 : decode cX4_goOff 190 = .ok (.iload_n 3, 1) := by decide +kernel
theorem dX4_goOff_191 : decode cX4_goOff 191 = .ok (.invokevirtual 199, 3) := by decide +kernel
theorem dX4_goOff_194 : decode cX4_goOff 194 = .ok (.goto 70, 3) := by decide +kernel
theorem dX4_goOff_197 : decode cX4_goOff 197 = .ok (.aload_n 0, 1) := by decide +kernel
theorem dX4_goOff_198 : decode cX4_goOff 198 = .ok (.iload_n 3, 1) := by decide +kernel
theorem dX4_goOff_199 : decode cX4_goOff 199 = .ok (.lload 4, 2) := by decide +kernel
theorem dX4_goOff_201 : decode cX4_goOff 201 = .ok (.invokevirtual 203, 3) := by decide +kernel
theorem dX4_goOff_204 : decode cX4_goOff 204 = .ok (.goto 60, 3) := by decide +kernel
theorem dX4_goOff_207 : decode cX4_goOff 207 = .ok (.aload_n 0, 1) := by decide +kernel
theorem dX4_goOff_208 : decode cX4_goOff 208 = .ok (.iload_n 2, 1) := by decide +kernel
theorem dX4_goOff_209 : decode cX4_goOff 209 = .ok (.iload_n 3, 1) := by decide +kernel
theorem dX4_goOff_210 : decode cX4_goOff 210 = .ok (.lload 4, 2) := by decide +kernel
theorem dX4_goOff_212 : decode cX4_goOff 212 = .ok (.invokevirtual 207, 3) := by decide +kernel
theorem dX4_goOff_215 : decode cX4_goOff 215 = .ok (.goto 49, 3) := by decide +kernel
theorem dX4_goOff_218 : decode cX4_goOff 218 = .ok (.aload_n 0, 1) := by decide +kernel
theorem dX4_goOff_219 : decode cX4_goOff 219 = .ok (.iload_n 1, 1) := by decide +kernel
theorem dX4_goOff_220 : decode cX4_goOff 220 = .ok (.iload_n 2, 1) := by decide +kernel
theorem dX4_goOff_221 : decode cX4_goOff 221 = .ok (.iload_n 3, 1) := by decide +kernel
theorem dX4_goOff_222 : decode cX4_goOff 222 = .ok (.invokevirtual 210, 3) := by decide +kernel
theorem dX4_goOff_225 : decode cX4_goOff 225 = .ok (.goto 39, 3) := by decide +kernel
theorem dX4_goOff_228 : decode cX4_goOff 228 = .ok (.aload_n 0, 1) := by decide +kernel
theorem dX4_goOff_229 : decode cX4_goOff 229 = .ok (.iload_n 1, 1) := by decide +kernel
theorem dX4_goOff_230 : decode cX4_goOff 230 = .ok (.iload_n 2, 1) := by decide +kernel
theorem dX4_goOff_231 : decode cX4_goOff 231 = .ok (.iload_n 3, 1) := by decide +kernel
theorem dX4_goOff_232 : decode cX4_goOff 232 = .ok (.invokevirtual 213, 3) := by decide +kernel
theorem dX4_goOff_235 : decode cX4_goOff 235 = .ok (.goto 29, 3) := by decide +kernel
theorem dX4_goOff_238 : decode cX4_goOff 238 = .ok (.aload_n 0, 1) := by decide +kernel
theorem dX4_goOff_239 : decode cX4_goOff 239 = .ok (.iload_n 2, 1) := by decide +kernel
theorem dX4_goOff_240 : decode cX4_goOff 240 = .ok (.iload_n 3, 1) := by decide +kernel
theorem dX4_goOff_241 : decode cX4_goOff 241 = .ok (.lload 4, 2) := by decide +kernel
theorem dX4_goOff_243 : decode cX4_goOff 243 = .ok (.invokevirtual 216, 3) := by decide +kernel
theorem dX4_goOff_246 : decode cX4_goOff 246 = .ok (.goto 18, 3) := by decide +kernel
theorem dX4_goOff_249 : decode cX4_goOff 249 = .ok (.aload_n 0, 1) := by decide +kernel
theorem dX4_goOff_250 : decode cX4_goOff 250 = .ok (.iload_n 2, 1) := by decide +kernel
theorem dX4_goOff_251 : decode cX4_goOff 251 = .ok (.iconst 0, 1) := by decide +kernel
theorem dX4_goOff_252 : decode cX4_goOff 252 = .ok (.iload_n 3, 1) := by decide +kernel
theorem dX4_goOff_253 : decode cX4_goOff 253 = .ok (.aload_n 0, 1) := by decide +kernel
theorem dX4_goOff_254 : decode cX4_goOff 254 = .ok (.iload_n 1, 1) := by decide +kernel
theorem dX4_goOff_255 : decode cX4_goOff 255 = .ok (.iload_n 2, 1) := by decide +kernel
theorem dX4_goOff_256 : decode cX4_goOff 256 = .ok (.lload 4, 2) := by decide +kernel
theorem dX4_goOff_258 : decode cX4_goOff 258 = .ok (.invokevirtual 219, 3) := by decide +kernel
theorem dX4_goOff_261 : decode cX4_goOff 261 = .ok (.invokevirtual 192, 3) := by decide +kernel
theorem dX4_goOff_264 : decode cX4_goOff 264 = .ok (.return_, 1) := by decide +kernel
theorem dX4_plainResult_0 : decode cX4_plainResult 0 = .ok (.aload_n 0, 1) := by decide +kernel
theorem dX4_plainResult_1 : decode cX4_plainResult 1 = .ok (.getfield 47, 3) := by decide +kernel
theorem dX4_plainResult_4 : decode cX4_plainResult 4 = .ok (.getfield 179, 3) := by decide +kernel
theorem dX4_plainResult_7 : decode cX4_plainResult 7 = .ok (.iload_n 2, 1) := by decide +kernel
theorem dX4_plainResult_8 : decode cX4_plainResult 8 = .ok (.iaload, 1) := by decide +kernel
theorem dX4_plainResult_9 : decode cX4_plainResult 9 = .ok (.istore 5, 2) := by decide +kernel
theorem dX4_plainResult_11 : decode cX4_plainResult 11 = .ok (.iload 5, 2) := by decide +kernel
theorem dX4_plainResult_13 : decode cX4_plainResult 13 = .ok (.lookupswitch 111 #[(0, 51), (1, 53), (9, 66), (15, 51), (20, 72)], 51) := by decide +kernel
theorem dX4_plainResult_64 : decode cX4_plainResult 64 = .ok (.lload_n 3, 1) := by decide +kernel
theorem dX4_plainResult_65 : decode cX4_plainResult 65 = .ok (.lreturn, 1) := by decide +kernel
theorem dX4_plainResult_66 : decode cX4_plainResult 66 = .ok (.aload_n 0, 1) := by decide +kernel
theorem dX4_plainResult_67 : decode cX4_plainResult 67 = .ok (.getfield 47, 3) := by decide +kernel
theorem dX4_plainResult_70 : decode cX4_plainResult 70 = .ok (.getfield 186, 3) := by decide +kernel
theorem dX4_plainResult_73 : decode cX4_plainResult 73 = .ok (.iload_n 2, 1) := by decide +kernel
theorem dX4_plainResult_74 : decode cX4_plainResult 74 = .ok (.iaload, 1) := by decide +kernel
theorem dX4_plainResult_75 : decode cX4_plainResult 75 = .ok (.invokestatic 151, 3) := by decide +kernel
theorem dX4_plainResult_78 : decode cX4_plainResult 78 = .ok (.lreturn, 1) := by decide +kernel
theorem dX4_plainResult_79 : decode cX4_plainResult 79 = .ok (.iload_n 2, 1) := by decide +kernel
theorem dX4_plainResult_80 : decode cX4_plainResult 80 = .ok (.lload_n 3, 1) := by decide +kernel
theorem dX4_plainResult_81 : decode cX4_plainResult 81 = .ok (.invokestatic 223, 3) := by decide +kernel
theorem dX4_plainResult_84 : decode cX4_plainResult 84 = .ok (.lreturn, 1) := by decide +kernel
theorem dX4_plainResult_85 : decode cX4_plainResult 85 = .ok (.iload_n 2, 1) := by decide +kernel
theorem dX4_plainResult_86 : decode cX4_plainResult 86 = .ok (.lload_n 3, 1) := by decide +kernel
theorem dX4_plainResult_87 : decode cX4_plainResult 87 = .ok (.iconst 2, 1) := by decide +kernel
theorem dX4_plainResult_88 : decode cX4_plainResult 88 = .ok (.invokestatic 229, 3) := by decide +kernel
theorem dX4_plainResult_91 : decode cX4_plainResult 91 = .ok (.lstore 6, 2) := by decide +kernel
theorem dX4_plainResult_93 : decode cX4_plainResult 93 = .ok (.lload_n 3, 1) := by decide +kernel
theorem dX4_plainResult_94 : decode cX4_plainResult 94 = .ok (.invokestatic 111, 3) := by decide +kernel
theorem dX4_plainResult_97 : decode cX4_plainResult 97 = .ok (.istore 8, 2) := by decide +kernel
theorem dX4_plainResult_99 : decode cX4_plainResult 99 = .ok (.lload 6, 2) := by decide +kernel
theorem dX4_plainResult_101 : decode cX4_plainResult 101 = .ok (.lconst 0, 1) := by decide +kernel
theorem dX4_plainResult_102 : decode cX4_plainResult 102 = .ok (.lcmp, 1) := by decide +kernel
theorem dX4_plainResult_103 : decode cX4_plainResult 103 = .ok (.ifCond .eq 8, 3) := by decide +kernel
theorem dX4_plainResult_106 : decode cX4_plainResult 106 = .ok (.lload 6, 2) := by decide +kernel
theorem dX4_plainResult_108 : decode cX4_plainResult 108 = .ok (.goto 15, 3) := by decide +kernel
theorem dX4_plainResult_111 : decode cX4_plainResult 111 = .ok (.aload_n 0, 1) := by decide +kernel
theorem dX4_plainResult_112 : decode cX4_plainResult 112 = .ok (.getfield 12, 3) := by decide +kernel
theorem dX4_plainResult_115 : decode cX4_plainResult 115 = .ok (.iload 8, 2) := by decide +kernel
theorem dX4_plainResult_117 : decode cX4_plainResult 117 = .ok (.invokevirtual 114, 3) := by decide +kernel
theorem dX4_plainResult_120 : decode cX4_plainResult 120 = .ok (.invokestatic 151, 3) := by decide +kernel
theorem dX4_plainResult_123 : decode cX4_plainResult 123 = .ok (.lreturn, 1) := by decide +kernel
theorem dX4_plainResult_124 : decode cX4_plainResult 124 = .ok (.iload 5, 2) := by decide +kernel
theorem dX4_plainResult_126 : decode cX4_plainResult 126 = .ok (.iload_n 2, 1) := by decide +kernel
theorem dX4_plainResult_127 : decode cX4_plainResult 127 = .ok (.lload_n 3, 1) := by decide +kernel
theorem dX4_plainResult_128 : decode cX4_plainResult 128 = .ok (.aload_n 0, 1) := by decide +kernel
theorem dX4_plainResult_129 : decode cX4_plainResult 129 = .ok (.getfield 36, 3) := by decide +kernel
theorem dX4_plainResult_132 : decode cX4_plainResult 132 = .ok (.iload_n 1, 1) := by decide +kernel
theorem dX4_plainResult_133 : decode cX4_plainResult 133 = .ok (.iconst 1, 1) := by decide +kernel
theorem dX4_plainResult_134 : decode cX4_plainResult 134 = .ok (.invokevirtual 175, 3) := by decide +kernel
theorem dX4_plainResult_137 : decode cX4_plainResult 137 = .ok (.invokestatic 233, 3) := by decide +kernel
theorem dX4_plainResult_140 : decode cX4_plainResult 140 = .ok (.lreturn, 1) := by decide +kernel
theorem dX4_goSwitch_0 : decode cX4_goSwitch 0 = .ok (.lload 5, 2) := by decide +kernel
theorem dX4_goSwitch_2 : decode cX4_goSwitch 2 = .ok (.invokestatic 105, 3) := by decide +kernel
theorem dX4_goSwitch_5 : decode cX4_goSwitch 5 = .ok (.iconst 1, 1) := by decide +kernel
theorem dX4_goSwitch_6 : decode cX4_goSwitch 6 = .ok (.if_icmp .eq 16, 3) := by decide +kernel
theorem dX4_goSwitch_9 : decode cX4_goSwitch 9 = .ok (.aload_n 0, 1) := by decide +kernel
theorem dX4_goSwitch_10 : decode cX4_goSwitch 10 = .ok (.dup, 1) := by decide +kernel
theorem dX4_goSwitch_11 : decode cX4_goSwitch 11 = .ok (.getfield 93, 3) := by decide +kernel
theorem dX4_goSwitch_14 : decode cX4_goSwitch 14 = .ok (.iconst 1, 1) := by decide +kernel
theorem dX4_goSwitch_15 : decode cX4_goSwitch 15 = .ok (.iadd, 1) := by decide +kernel
theorem dX4_goSwitch_16 : decode cX4_goSwitch 16 = .ok (.putfield 93, 3) := by decide +kernel
theorem dX4_goSwitch_19 : decode cX4_goSwitch 19 = .ok (.goto 23, 3) := by decide +kernel
theorem dX4_goSwitch_22 : decode cX4_goSwitch 22 = .ok (.aload_n 0, 1) := by decide +kernel
theorem dX4_goSwitch_23 : decode cX4_goSwitch 23 = .ok (.iload_n 1, 1) := by decide +kernel
theorem dX4_goSwitch_24 : decode cX4_goSwitch 24 = .ok (.lload 5, 2) := by decide +kernel
theorem dX4_goSwitch_26 : decode cX4_goSwitch 26 = .ok (.invokestatic 111, 3) := by decide +kernel
theorem dX4_goSwitch_29 : decode cX4_goSwitch 29 = .ok (.ifCond .eq 7, 3) := by decide +kernel
theorem dX4_goSwitch_32 : decode cX4_goSwitch 32 = .ok (.iconst 0, 1) := by decide +kernel
theorem dX4_goSwitch_33 : decode cX4_goSwitch 33 = .ok (.goto 4, 3) := by decide +kernel
theorem dX4_goSwitch_36 : decode cX4_goSwitch 36 = .ok (.iconst 1, 1) := by decide +kernel
theorem dX4_goSwitch_37 : decode cX4_goSwitch 37 = .ok (.iload_n 2, 1) := by decide +kernel
theorem dX4_goSwitch_38 : decode cX4_goSwitch 38 = .ok (.lload_n 3, 1) := by decide +kernel
theorem dX4_goSwitch_39 : decode cX4_goSwitch 39 = .ok (.invokevirtual 192, 3) := by decide +kernel
theorem dX4_goSwitch_42 : decode cX4_goSwitch 42 = .ok (.return_, 1) := by decide +kernel
theorem dX4_goTurn_0 : decode cX4_goTurn 0 = .ok (.aload_n 0, 1) := by decide +kernel
theorem dX4_goTurn_1 : decode cX4_goTurn 1 = .ok (.getfield 29, 3) := by decide +kernel
theorem dX4_goTurn_4 : decode cX4_goTurn 4 = .ok (.iload_n 2, 1) := by decide +kernel
theorem dX4_goTurn_5 : decode cX4_goTurn 5 = .ok (.aload_n 0, 1) := by decide +kernel
theorem dX4_goTurn_6 : decode cX4_goTurn 6 = .ok (.getfield 47, 3) := by decide +kernel
theorem dX4_goTurn_9 : decode cX4_goTurn 9 = .ok (.getfield 186, 3) := by decide +kernel
theorem dX4_goTurn_12 : decode cX4_goTurn 12 = .ok (.iload_n 1, 1) := by decide +kernel
theorem dX4_goTurn_13 : decode cX4_goTurn 13 = .ok (.iaload, 1) := by decide +kernel
theorem dX4_goTurn_14 : decode cX4_goTurn 14 = .ok (.invokevirtual 237, 3) := by decide +kernel
theorem dX4_goTurn_17 : decode cX4_goTurn 17 = .ok (.ifCond .ne 18, 3) := by decide +kernel
theorem dX4_goTurn_20 : decode cX4_goTurn 20 = .ok (.aload_n 0, 1) := by decide +kernel
theorem dX4_goTurn_21 : decode cX4_goTurn 21 = .ok (.iload_n 1, 1) := by decide +kernel
theorem dX4_goTurn_22 : decode cX4_goTurn 22 = .ok (.iconst 0, 1) := by decide +kernel
theorem dX4_goTurn_23 : decode cX4_goTurn 23 = .ok (.iload_n 2, 1) := by decide +kernel
theorem dX4_goTurn_24 : decode cX4_goTurn 24 = .ok (.iconst 5, 1) := by decide +kernel
theorem dX4_goTurn_25 : decode cX4_goTurn 25 = .ok (.iload_n 1, 1) := by decide +kernel
theorem dX4_goTurn_26 : decode cX4_goTurn 26 = .ok (.invokestatic 241, 3) := by decide +kernel
theorem dX4_goTurn_29 : decode cX4_goTurn 29 = .ok (.invokevirtual 192, 3) := by decide +kernel
theorem dX4_goTurn_32 : decode cX4_goTurn 32 = .ok (.goto 50, 3) := by decide +kernel
theorem dX4_goTurn_35 : decode cX4_goTurn 35 = .ok (.aload_n 0, 1) := by decide +kernel
theorem dX4_goTurn_36 : decode cX4_goTurn 36 = .ok (.getfield 47, 3) := by decide +kernel
theorem dX4_goTurn_39 : decode cX4_goTurn 39 = .ok (.getfield 179, 3) := by decide +kernel
theorem dX4_goTurn_42 : decode cX4_goTurn 42 = .ok (.iload_n 1, 1) := by decide +kernel
theorem dX4_goTurn_43 : decode cX4_goTurn 43 = .ok (.iaload, 1) := by decide +kernel
theorem dX4_goTurn_44 : decode cX4_goTurn 44 = .ok (.bipush 12, 2) := by decide +kernel
theorem dX4_goTurn_46 : decode cX4_goTurn 46 = .ok (.if_icmp .ne 21, 3) := by decide +kernel
theorem dX4_goTurn_49 : decode cX4_goTurn 49 = .ok (.aload_n 0, 1) := by decide +kernel
theorem dX4_goTurn_50 : decode cX4_goTurn 50 = .ok (.iload_n 1, 1) := by decide +kernel
theorem dX4_goTurn_51 : decode cX4_goTurn 51 = .ok (.iconst 0, 1) := by decide +kernel
theorem dX4_goTurn_52 : decode cX4_goTurn 52 = .ok (.aload_n 0, 1) := by decide +kernel
theorem dX4_goTurn_53 : decode cX4_goTurn 53 = .ok (.getfield 29, 3) := by decide +kernel
theorem dX4_goTurn_56 : decode cX4_goTurn 56 = .ok (.iload_n 2, 1) := by decide +kernel
theorem dX4_goTurn_57 : decode cX4_goTurn 57 = .ok (.invokevirtual 246, 3) := by decide +kernel
theorem dX4_goTurn_60 : decode cX4_goTurn 60 = .ok (.lload_n 3, 1) := by decide +kernel
theorem dX4_goTurn_61 : decode cX4_goTurn 61 = .ok (.invokevirtual 192, 3) := by decide +kernel
theorem dX4_goTurn_64 : decode cX4_goTurn 64 = .ok (.goto 18, 3) := by decide +kernel
theorem dX4_goTurn_67 : decode cX4_goTurn 67 = .ok (.aload_n 0, 1) := by decide +kernel
theorem dX4_goTurn_68 : decode cX4_goTurn 68 = .ok (.iload_n 1, 1) := by decide +kernel
theorem dX4_goTurn_69 : decode cX4_goTurn 69 = .ok (.iconst 0, 1) := by decide +kernel
theorem dX4_goTurn_70 : decode cX4_goTurn 70 = .ok (.aload_n 0, 1) := by decide +kernel
theorem dX4_goTurn_71 : decode cX4_goTurn 71 = .ok (.getfield 29, 3) := by decide +kernel
theorem dX4_goTurn_74 : decode cX4_goTurn 74 = .ok (.iload_n 2, 1) := by decide +kernel
theorem dX4_goTurn_75 : decode cX4_goTurn 75 = .ok (.invokevirtual 249, 3) := by decide +kernel
theorem dX4_goTurn_78 : decode cX4_goTurn 78 = .ok (.lload_n 3, 1) := by decide +kernel
theorem dX4_goTurn_79 : decode cX4_goTurn 79 = .ok (.invokevirtual 192, 3) := by decide +kernel
theorem dX4_goTurn_82 : decode cX4_goTurn 82 = .ok (.return_, 1) := by decide +kernel
theorem dX4_goCall_0 : decode cX4_goCall 0 = .ok (.aload_n 0, 1) := by decide +kernel
theorem dX4_goCall_1 : decode cX4_goCall 1 = .ok (.getfield 29, 3) := by decide +kernel
theorem dX4_goCall_4 : decode cX4_goCall 4 = .ok (.iload_n 3, 1) := by decide +kernel
theorem dX4_goCall_5 : decode cX4_goCall 5 = .ok (.iload_n 2, 1) := by decide +kernel
theorem dX4_goCall_6 : decode cX4_goCall 6 = .ok (.invokevirtual 252, 3) := by decide +kernel
theorem dX4_goCall_9 : decode cX4_goCall 9 = .ok (.istore 4, 2) := by decide +kernel
theorem dX4_goCall_11 : decode cX4_goCall 11 = .ok (.iload 4, 2) := by decide +kernel
theorem dX4_goCall_13 : decode cX4_goCall 13 = .ok (.iconst (-1), 1) := by decide +kernel
theorem dX4_goCall_14 : decode cX4_goCall 14 = .ok (.if_icmp .ne 9, 3) := by decide +kernel
theorem dX4_goCall_17 : decode cX4_goCall 17 = .ok (.aload_n 0, 1) := by decide +kernel
theorem dX4_goCall_18 : decode cX4_goCall 18 = .ok (.iconst 2, 1) := by decide +kernel
theorem dX4_goCall_19 : decode cX4_goCall 19 = .ok (.putfield 78, 3) := by decide +kernel
theorem dX4_goCall_22 : decode cX4_goCall 22 = .ok (.return_, 1) := by decide +kernel
theorem dX4_goCall_23 : decode cX4_goCall 23 = .ok (.iconst 0, 1) := by decide +kernel
theorem dX4_goCall_24 : decode cX4_goCall 24 = .ok (.istore 5, 2) := by decide +kernel
theorem dX4_goCall_26 : decode cX4_goCall 26 = .ok (.iload 5, 2) := by decide +kernel
theorem dX4_goCall_28 : decode cX4_goCall 28 = .ok (.aload_n 0, 1) := by decide +kernel
theorem dX4_goCall_29 : decode cX4_goCall 29 = .ok (.getfield 47, 3) := by decide +kernel
theorem dX4_goCall_32 : decode cX4_goCall 32 = .ok (.getfield 255, 3) := by decide +kernel
theorem dX4_goCall_35 : decode cX4_goCall 35 = .ok (.iload_n 2, 1) := by decide +kernel
theorem dX4_goCall_36 : decode cX4_goCall 36 = .ok (.iaload, 1) := by decide +kernel
theorem dX4_goCall_37 : decode cX4_goCall 37 = .ok (.if_icmp .ge 54, 3) := by decide +kernel
theorem dX4_goCall_40 : decode cX4_goCall 40 = .ok (.aload_n 0, 1) := by decide +kernel
theorem dX4_goCall_41 : decode cX4_goCall 41 = .ok (.getfield 78, 3) := by decide +kernel
theorem dX4_goCall_44 : decode cX4_goCall 44 = .ok (.iconst (-1), 1) := by decide +kernel
theorem dX4_goCall_45 : decode cX4_goCall 45 = .ok (.if_icmp .ne 46, 3) := by decide +kernel
theorem dX4_goCall_48 : decode cX4_goCall 48 = .ok (.aload_n 0, 1) := by decide +kernel
theorem dX4_goCall_49 : decode cX4_goCall 49 = .ok (.getfield 47, 3) := by decide +kernel
theorem dX4_goCall_52 : decode cX4_goCall 52 = .ok (.iload_n 2, 1) := by decide +kernel
theorem dX4_goCall_53 : decode cX4_goCall 53 = .ok (.iload 5, 2) := by decide +kernel
theorem dX4_goCall_55 : decode cX4_goCall 55 = .ok (.invokevirtual 258, 3) := by decide +kernel
theorem dX4_goCall_58 : decode cX4_goCall 58 = .ok (.istore 6, 2) := by decide +kernel
theorem dX4_goCall_60 : decode cX4_goCall 60 = .ok (.iload 6, 2) := by decide +kernel
theorem dX4_goCall_62 : decode cX4_goCall 62 = .ok (.iconst (-1), 1) := by decide +kernel
theorem dX4_goCall_63 : decode cX4_goCall 63 = .ok (.if_icmp .eq 22, 3) := by decide +kernel
theorem dX4_goCall_66 : decode cX4_goCall 66 = .ok (.aload_n 0, 1) := by decide +kernel
theorem dX4_goCall_67 : decode cX4_goCall 67 = .ok (.iload 6, 2) := by decide +kernel
theorem dX4_goCall_69 : decode cX4_goCall 69 = .ok (.iconst 0, 1) := by decide +kernel
theorem dX4_goCall_70 : decode cX4_goCall 70 = .ok (.iload 4, 2) := by decide +kernel
theorem dX4_goCall_72 : decode cX4_goCall 72 = .ok (.aload_n 0, 1) := by decide +kernel
theorem dX4_goCall_73 : decode cX4_goCall 73 = .ok (.getfield 36, 3) := by decide +kernel
theorem dX4_goCall_76 : decode cX4_goCall 76 = .ok (.iload_n 1, 1) := by decide +kernel
theorem dX4_goCall_77 : decode cX4_goCall 77 = .ok (.iload 5, 2) := by decide +kernel
theorem dX4_goCall_79 : decode cX4_goCall 79 = .ok (.invokevirtual 175, 3) := by decide +kernel
theorem dX4_goCall_82 : decode cX4_goCall 82 = .ok (.invokevirtual 160, 3) := by decide +kernel
theorem dX4_goCall_85 : decode cX4_goCall 85 = .ok (.iinc 5 1, 3) := by decide +kernel
theorem dX4_goCall_88 : decode cX4_goCall 88 = .ok (.goto (-62), 3) := by decide +kernel
theorem dX4_goCall_91 : decode cX4_goCall 91 = .ok (.return_, 1) := by decide +kernel
theorem dX4_goReturn_0 : decode cX4_goReturn 0 = .ok (.aload_n 0, 1) := by decide +kernel
theorem dX4_goReturn_1 : decode cX4_goReturn 1 = .ok (.getfield 29, 3) := by decide +kernel
theorem dX4_goReturn_4 : decode cX4_goReturn 4 = .ok (.iload_n 1, 1) := by decide +kernel
theorem dX4_goReturn_5 : decode cX4_goReturn 5 = .ok (.invokevirtual 261, 3) := by decide +kernel
theorem dX4_goReturn_8 : decode cX4_goReturn 8 = .ok (.istore 4, 2) := by decide +kernel
theorem dX4_goReturn_10 : decode cX4_goReturn 10 = .ok (.iload 4, 2) := by decide +kernel
theorem dX4_goReturn_12 : decode cX4_goReturn 12 = .ok (.iconst (-1), 1) := by decide +kernel
theorem dX4_goReturn_13 : decode cX4_goReturn 13 = .ok (.if_icmp .ne 16, 3) := by decide +kernel
theorem dX4_goReturn_16 : decode cX4_goReturn 16 = .ok (.aload_n 0, 1) := by decide +kernel
theorem dX4_goReturn_17 : decode cX4_goReturn 17 = .ok (.dup, 1) := by decide +kernel
theorem dX4_goReturn_18 : decode cX4_goReturn 18 = .ok (.getfield 93, 3) := by decide +kernel
theorem dX4_goReturn_21 : decode cX4_goReturn 21 = .ok (.iconst 1, 1) := by decide +kernel
theorem dX4_goReturn_22 : decode cX4_goReturn 22 = .ok (.iadd, 1) := by decide +kernel
theorem dX4_goReturn_23 : decode cX4_goReturn 23 = .ok (.putfield 93, 3) := by decide +kernel
theorem dX4_goReturn_26 : decode cX4_goReturn 26 = .ok (.goto 19, 3) := by decide +kernel
theorem dX4_goReturn_29 : decode cX4_goReturn 29 = .ok (.aload_n 0, 1) := by decide +kernel
theorem dX4_goReturn_30 : decode cX4_goReturn 30 = .ok (.iload 4, 2) := by decide +kernel
theorem dX4_goReturn_32 : decode cX4_goReturn 32 = .ok (.iconst 0, 1) := by decide +kernel
theorem dX4_goReturn_33 : decode cX4_goReturn 33 = .ok (.aload_n 0, 1) := by decide +kernel
theorem dX4_goReturn_34 : decode cX4_goReturn 34 = .ok (.getfield 29, 3) := by decide +kernel
theorem dX4_goReturn_37 : decode cX4_goReturn 37 = .ok (.iload_n 1, 1) := by decide +kernel
theorem dX4_goReturn_38 : decode cX4_goReturn 38 = .ok (.invokevirtual 249, 3) := by decide +kernel
theorem dX4_goReturn_41 : decode cX4_goReturn 41 = .ok (.lload_n 2, 1) := by decide +kernel
theorem dX4_goReturn_42 : decode cX4_goReturn 42 = .ok (.invokevirtual 192, 3) := by decide +kernel
theorem dX4_goReturn_45 : decode cX4_goReturn 45 = .ok (.return_, 1) := by decide +kernel
theorem dX4_goMake_0 : decode cX4_goMake 0 = .ok (.iload_n 1, 1) := by decide +kernel
theorem dX4_goMake_1 : decode cX4_goMake 1 = .ok (.lload_n 3, 1) := by decide +kernel
theorem dX4_goMake_2 : decode cX4_goMake 2 = .ok (.iconst 1, 1) := by decide +kernel
theorem dX4_goMake_3 : decode cX4_goMake 3 = .ok (.invokestatic 229, 3) := by decide +kernel
theorem dX4_goMake_6 : decode cX4_goMake 6 = .ok (.lstore 5, 2) := by decide +kernel
theorem dX4_goMake_8 : decode cX4_goMake 8 = .ok (.lload_n 3, 1) := by decide +kernel
theorem dX4_goMake_9 : decode cX4_goMake 9 = .ok (.invokestatic 111, 3) := by decide +kernel
theorem dX4_goMake_12 : decode cX4_goMake 12 = .ok (.istore 7, 2) := by decide +kernel
theorem dX4_goMake_14 : decode cX4_goMake 14 = .ok (.lload 5, 2) := by decide +kernel
theorem dX4_goMake_16 : decode cX4_goMake 16 = .ok (.lconst 0, 1) := by decide +kernel
theorem dX4_goMake_17 : decode cX4_goMake 17 = .ok (.lcmp, 1) := by decide +kernel
theorem dX4_goMake_18 : decode cX4_goMake 18 = .ok (.ifCond .ne 23, 3) := by decide +kernel
theorem dX4_goMake_21 : decode cX4_goMake 21 = .ok (.iload 7, 2) := by decide +kernel
theorem dX4_goMake_23 : decode cX4_goMake 23 = .ok (.ifCond .lt 11, 3) := by decide +kernel
theorem dX4_goMake_26 : decode cX4_goMake 26 = .ok (.iload 7, 2) := by decide +kernel
theorem dX4_goMake_28 : decode cX4_goMake 28 = .ok (.sipush 200, 3) := by decide +kernel
theorem dX4_goMake_31 : decode cX4_goMake 31 = .ok (.if_icmp .le 10, 3) := by decide +kernel
theorem dX4_goMake_34 : decode cX4_goMake 34 = .ok (.iconst 3, 1) := by decide +kernel
theorem dX4_goMake_35 : decode cX4_goMake 35 = .ok (.iload_n 1, 1) := by decide +kernel
theorem dX4_goMake_36 : decode cX4_goMake 36 = .ok (.invokestatic 241, 3) := by decide +kernel
theorem dX4_goMake_39 : decode cX4_goMake 39 = .ok (.lstore 5, 2) := by decide +kernel
theorem dX4_goMake_41 : decode cX4_goMake 41 = .ok (.lload 5, 2) := by decide +kernel
theorem dX4_goMake_43 : decode cX4_goMake 43 = .ok (.lconst 0, 1) := by decide +kernel
theorem dX4_goMake_44 : decode cX4_goMake 44 = .ok (.lcmp, 1) := by decide +kernel
theorem dX4_goMake_45 : decode cX4_goMake 45 = .ok (.ifCond .eq 13, 3) := by decide +kernel
theorem dX4_goMake_48 : decode cX4_goMake 48 = .ok (.aload_n 0, 1) := by decide +kernel
theorem dX4_goMake_49 : decode cX4_goMake 49 = .ok (.iload_n 1, 1) := by decide +kernel
theorem dX4_goMake_50 : decode cX4_goMake 50 = .ok (.iconst 0, 1) := by decide +kernel
theorem dX4_goMake_51 : decode cX4_goMake 51 = .ok (.iload_n 2, 1) := by decide +kernel
theorem dX4_goMake_52 : decode cX4_goMake 52 = .ok (.lload 5, 2) := by decide +kernel
theorem dX4_goMake_54 : decode cX4_goMake 54 = .ok (.invokevirtual 192, 3) := by decide +kernel
theorem dX4_goMake_57 : decode cX4_goMake 57 = .ok (.return_, 1) := by decide +kernel
theorem dX4_goMake_58 : decode cX4_goMake 58 = .ok (.aload_n 0, 1) := by decide +kernel
theorem dX4_goMake_59 : decode cX4_goMake 59 = .ok (.getfield 12, 3) := by decide +kernel
theorem dX4_goMake_62 : decode cX4_goMake 62 = .ok (.iload 7, 2) := by decide +kernel
theorem dX4_goMake_64 : decode cX4_goMake 64 = .ok (.invokevirtual 264, 3) := by decide +kernel
theorem dX4_goMake_67 : decode cX4_goMake 67 = .ok (.istore 8, 2) := by decide +kernel
theorem dX4_goMake_69 : decode cX4_goMake 69 = .ok (.iload 8, 2) := by decide +kernel
theorem dX4_goMake_71 : decode cX4_goMake 71 = .ok (.iconst (-1), 1) := by decide +kernel
theorem dX4_goMake_72 : decode cX4_goMake 72 = .ok (.if_icmp .ne 9, 3) := by decide +kernel
theorem dX4_goMake_75 : decode cX4_goMake 75 = .ok (.aload_n 0, 1) := by decide +kernel
theorem dX4_goMake_76 : decode cX4_goMake 76 = .ok (.iconst 2, 1) := by decide +kernel
theorem dX4_goMake_77 : decode cX4_goMake 77 = .ok (.putfield 78, 3) := by decide +kernel
theorem dX4_goMake_80 : decode cX4_goMake 80 = .ok (.return_, 1) := by decide +kernel
theorem dX4_goMake_81 : decode cX4_goMake 81 = .ok (.iload_n 2, 1) := by decide +kernel
theorem dX4_goMake_82 : decode cX4_goMake 82 = .ok (.ifCond .ne 14, 3) := by decide +kernel
theorem dX4_goMake_85 : decode cX4_goMake 85 = .ok (.aload_n 0, 1) := by decide +kernel
theorem dX4_goMake_86 : decode cX4_goMake 86 = .ok (.getfield 12, 3) := by decide +kernel
theorem dX4_goMake_89 : decode cX4_goMake 89 = .ok (.getfield 267, 3) := by decide +kernel
theorem dX4_goMake_92 : decode cX4_goMake 92 = .ok (.iload_n 1, 1) := by decide +kernel
theorem dX4_goMake_93 : decode cX4_goMake 93 = .ok (.iload 8, 2) := by decide +kernel
theorem dX4_goMake_95 : decode cX4_goMake 95 = .ok (.iastore, 1) := by decide +kernel
theorem dX4_goMake_96 : decode cX4_goMake 96 = .ok (.aload_n 0, 1) := by decide +kernel
theorem dX4_goMake_97 : decode cX4_goMake 97 = .ok (.iload_n 1, 1) := by decide +kernel
theorem dX4_goMake_98 : decode cX4_goMake 98 = .ok (.iconst 0, 1) := by decide +kernel
theorem dX4_goMake_99 : decode cX4_goMake 99 = .ok (.iload_n 2, 1) := by decide +kernel
theorem dX4_goMake_100 : decode cX4_goMake 100 = .ok (.iload 8, 2) := by decide +kernel
theorem dX4_goMake_102 : decode cX4_goMake 102 = .ok (.invokestatic 124, 3) := by decide +kernel
theorem dX4_goMake_105 : decode cX4_goMake 105 = .ok (.invokevirtual 192, 3) := by decide +kernel
theorem dX4_goMake_108 : decode cX4_goMake 108 = .ok (.return_, 1) := by decide +kernel
theorem dX4_goRead_0 : decode cX4_goRead 0 = .ok (.aload_n 0, 1) := by decide +kernel
theorem dX4_goRead_1 : decode cX4_goRead 1 = .ok (.iload_n 1, 1) := by decide +kernel
theorem dX4_goRead_2 : decode cX4_goRead 2 = .ok (.invokevirtual 270, 3) := by decide +kernel
theorem dX4_goRead_5 : decode cX4_goRead 5 = .ok (.istore 4, 2) := by decide +kernel
theorem dX4_goRead_7 : decode cX4_goRead 7 = .ok (.aload_n 0, 1) := by decide +kernel
theorem dX4_goRead_8 : decode cX4_goRead 8 = .ok (.iload_n 1, 1) := by decide +kernel
theorem dX4_goRead_9 : decode cX4_goRead 9 = .ok (.iload_n 2, 1) := by decide +kernel
theorem dX4_goRead_10 : decode cX4_goRead 10 = .ok (.iload 4, 2) := by decide +kernel
theorem dX4_goRead_12 : decode cX4_goRead 12 = .ok (.invokevirtual 273, 3) := by decide +kernel
theorem dX4_goRead_15 : decode cX4_goRead 15 = .ok (.lstore 5, 2) := by decide +kernel
theorem dX4_goRead_17 : decode cX4_goRead 17 = .ok (.lload 5, 2) := by decide +kernel
theorem dX4_goRead_19 : decode cX4_goRead 19 = .ok (.lconst 0, 1) := by decide +kernel
theorem dX4_goRead_20 : decode cX4_goRead 20 = .ok (.lcmp, 1) := by decide +kernel
theorem dX4_goRead_21 : decode cX4_goRead 21 = .ok (.ifCond .ne 9, 3) := by decide +kernel
theorem dX4_goRead_24 : decode cX4_goRead 24 = .ok (.iload 4, 2) := by decide +kernel
theorem dX4_goRead_26 : decode cX4_goRead 26 = .ok (.iconst (-1), 1) := by decide +kernel
theorem dX4_goRead_27 : decode cX4_goRead 27 = .ok (.if_icmp .ne 13, 3) := by decide +kernel
theorem dX4_goRead_30 : decode cX4_goRead 30 = .ok (.aload_n 0, 1) := by decide +kernel
theorem dX4_goRead_31 : decode cX4_goRead 31 = .ok (.iload_n 2, 1) := by decide +kernel
theorem dX4_goRead_32 : decode cX4_goRead 32 = .ok (.iconst 0, 1) := by decide +kernel
theorem dX4_goRead_33 : decode cX4_goRead 33 = .ok (.iload_n 3, 1) := by decide +kernel
theorem dX4_goRead_34 : decode cX4_goRead 34 = .ok (.lload 5, 2) := by decide +kernel
theorem dX4_goRead_36 : decode cX4_goRead 36 = .ok (.invokevirtual 192, 3) := by decide +kernel
theorem dX4_goRead_39 : decode cX4_goRead 39 = .ok (.return_, 1) := by decide +kernel
theorem dX4_goRead_40 : decode cX4_goRead 40 = .ok (.aload_n 0, 1) := by decide +kernel
theorem dX4_goRead_41 : decode cX4_goRead 41 = .ok (.getfield 12, 3) := by decide +kernel
theorem dX4_goRead_44 : decode cX4_goRead 44 = .ok (.getfield 277, 3) := by decide +kernel
theorem dX4_goRead_47 : decode cX4_goRead 47 = .ok (.iload 4, 2) := by decide +kernel
theorem dX4_goRead_49 : decode cX4_goRead 49 = .ok (.laload, 1) := by decide +kernel
theorem dX4_goRead_50 : decode cX4_goRead 50 = .ok (.lstore 7, 2) := by decide +kernel
theorem dX4_goRead_52 : decode cX4_goRead 52 = .ok (.lload 7, 2) := by decide +kernel
theorem dX4_goRead_54 : decode cX4_goRead 54 = .ok (.lconst 0, 1) := by decide +kernel
theorem dX4_goRead_55 : decode cX4_goRead 55 = .ok (.lcmp, 1) := by decide +kernel
theorem dX4_goRead_56 : decode cX4_goRead 56 = .ok (.ifCond .ne 16, 3) := by decide +kernel
theorem dX4_goRead_59 : decode cX4_goRead 59 = .ok (.aload_n 0, 1) := by decide +kernel
theorem dX4_goRead_60 : decode cX4_goRead 60 = .ok (.getfield 12, 3) := by decide +kernel
theorem dX4_goRead_63 : decode cX4_goRead 63 = .ok (.iload 4, 2) := by decide +kernel
theorem dX4_goRead_65 : decode cX4_goRead 65 = .ok (.iload_n 1, 1) := by decide +kernel
theorem dX4_goRead_66 : decode cX4_goRead 66 = .ok (.invokevirtual 280, 3) := by decide +kernel
theorem dX4_goRead_69 : decode cX4_goRead 69 = .ok (.goto 12, 3) := by decide +kernel
theorem dX4_goRead_72 : decode cX4_goRead 72 = .ok (.aload_n 0, 1) := by decide +kernel
theorem dX4_goRead_73 : decode cX4_goRead 73 = .ok (.iload_n 2, 1) := by decide +kernel
theorem dX4_goRead_74 : decode cX4_goRead 74 = .ok (.iconst 0, 1) := by decide +kernel
theorem dX4_goRead_75 : decode cX4_goRead 75 = .ok (.iload_n 3, 1) := by decide +kernel
theorem dX4_goRead_76 : decode cX4_goRead 76 = .ok (.lload 7, 2) := by decide +kernel
theorem dX4_goRead_78 : decode cX4_goRead 78 = .ok (.invokevirtual 192, 3) := by decide +kernel
theorem dX4_goRead_81 : decode cX4_goRead 81 = .ok (.return_, 1) := by decide +kernel
theorem dX4_goWrite_0 : decode cX4_goWrite 0 = .ok (.aload_n 0, 1) := by decide +kernel
theorem dX4_goWrite_1 : decode cX4_goWrite 1 = .ok (.iload_n 1, 1) := by decide +kernel
theorem dX4_goWrite_2 : decode cX4_goWrite 2 = .ok (.invokevirtual 270, 3) := by decide +kernel
theorem dX4_goWrite_5 : decode cX4_goWrite 5 = .ok (.istore 4, 2) := by decide +kernel
theorem dX4_goWrite_7 : decode cX4_goWrite 7 = .ok (.aload_n 0, 1) := by decide +kernel
theorem dX4_goWrite_8 : decode cX4_goWrite 8 = .ok (.iload_n 1, 1) := by decide +kernel
theorem dX4_goWrite_9 : decode cX4_goWrite 9 = .ok (.iload_n 2, 1) := by decide +kernel
theorem dX4_goWrite_10 : decode cX4_goWrite 10 = .ok (.iload 4, 2) := by decide +kernel
theorem dX4_goWrite_12 : decode cX4_goWrite 12 = .ok (.invokevirtual 273, 3) := by decide +kernel
theorem dX4_goWrite_15 : decode cX4_goWrite 15 = .ok (.lstore 5, 2) := by decide +kernel
theorem dX4_goWrite_17 : decode cX4_goWrite 17 = .ok (.lload 5, 2) := by decide +kernel
theorem dX4_goWrite_19 : decode cX4_goWrite 19 = .ok (.lconst 0, 1) := by decide +kernel
theorem dX4_goWrite_20 : decode cX4_goWrite 20 = .ok (.lcmp, 1) := by decide +kernel
theorem dX4_goWrite_21 : decode cX4_goWrite 21 = .ok (.ifCond .ne 9, 3) := by decide +kernel
theorem dX4_goWrite_24 : decode cX4_goWrite 24 = .ok (.iload 4, 2) := by decide +kernel
theorem dX4_goWrite_26 : decode cX4_goWrite 26 = .ok (.iconst (-1), 1) := by decide +kernel
theorem dX4_goWrite_27 : decode cX4_goWrite 27 = .ok (.if_icmp .ne 13, 3) := by decide +kernel
theorem dX4_goWrite_30 : decode cX4_goWrite 30 = .ok (.aload_n 0, 1) := by decide +kernel
theorem dX4_goWrite_31 : decode cX4_goWrite 31 = .ok (.iload_n 2, 1) := by decide +kernel
theorem dX4_goWrite_32 : decode cX4_goWrite 32 = .ok (.iconst 0, 1) := by decide +kernel
theorem dX4_goWrite_33 : decode cX4_goWrite 33 = .ok (.iload_n 3, 1) := by decide +kernel
theorem dX4_goWrite_34 : decode cX4_goWrite 34 = .ok (.lload 5, 2) := by decide +kernel
theorem dX4_goWrite_36 : decode cX4_goWrite 36 = .ok (.invokevirtual 192, 3) := by decide +kernel
theorem dX4_goWrite_39 : decode cX4_goWrite 39 = .ok (.return_, 1) := by decide +kernel
theorem dX4_goWrite_40 : decode cX4_goWrite 40 = .ok (.aload_n 0, 1) := by decide +kernel
theorem dX4_goWrite_41 : decode cX4_goWrite 41 = .ok (.getfield 12, 3) := by decide +kernel
theorem dX4_goWrite_44 : decode cX4_goWrite 44 = .ok (.getfield 277, 3) := by decide +kernel
theorem dX4_goWrite_47 : decode cX4_goWrite 47 = .ok (.iload 4, 2) := by decide +kernel
theorem dX4_goWrite_49 : decode cX4_goWrite 49 = .ok (.laload, 1) := by decide +kernel
theorem dX4_goWrite_50 : decode cX4_goWrite 50 = .ok (.lconst 0, 1) := by decide +kernel
theorem dX4_goWrite_51 : decode cX4_goWrite 51 = .ok (.lcmp, 1) := by decide +kernel
theorem dX4_goWrite_52 : decode cX4_goWrite 52 = .ok (.ifCond .eq 9, 3) := by decide +kernel
theorem dX4_goWrite_55 : decode cX4_goWrite 55 = .ok (.aload_n 0, 1) := by decide +kernel
theorem dX4_goWrite_56 : decode cX4_goWrite 56 = .ok (.iload_n 2, 1) := by decide +kernel
theorem dX4_goWrite_57 : decode cX4_goWrite 57 = .ok (.invokevirtual 284, 3) := by decide +kernel
theorem dX4_goWrite_60 : decode cX4_goWrite 60 = .ok (.return_, 1) := by decide +kernel
theorem dX4_goWrite_61 : decode cX4_goWrite 61 = .ok (.aload_n 0, 1) := by decide +kernel
theorem dX4_goWrite_62 : decode cX4_goWrite 62 = .ok (.getfield 36, 3) := by decide +kernel
theorem dX4_goWrite_65 : decode cX4_goWrite 65 = .ok (.iload_n 1, 1) := by decide +kernel
theorem dX4_goWrite_66 : decode cX4_goWrite 66 = .ok (.iconst 2, 1) := by decide +kernel
theorem dX4_goWrite_67 : decode cX4_goWrite 67 = .ok (.invokevirtual 175, 3) := by decide +kernel
theorem dX4_goWrite_70 : decode cX4_goWrite 70 = .ok (.lstore 7, 2) := by decide +kernel
theorem dX4_goWrite_72 : decode cX4_goWrite 72 = .ok (.aload_n 0, 1) := by decide +kernel
theorem dX4_goWrite_73 : decode cX4_goWrite 73 = .ok (.getfield 12, 3) := by decide +kernel
theorem dX4_goWrite_76 : decode cX4_goWrite 76 = .ok (.getfield 277, 3) := by decide +kernel
theorem dX4_goWrite_79 : decode cX4_goWrite 79 = .ok (.iload 4, 2) := by decide +kernel
theorem dX4_goWrite_81 : decode cX4_goWrite 81 = .ok (.lload 7, 2) := by decide +kernel
theorem dX4_goWrite_83 : decode cX4_goWrite 83 = .ok (.lastore, 1) := by decide +kernel
theorem dX4_goWrite_84 : decode cX4_goWrite 84 = .ok (.aload_n 0, 1) := by decide +kernel
theorem dX4_goWrite_85 : decode cX4_goWrite 85 = .ok (.getfield 12, 3) := by decide +kernel
theorem dX4_goWrite_88 : decode cX4_goWrite 88 = .ok (.iload 4, 2) := by decide +kernel
theorem dX4_goWrite_90 : decode cX4_goWrite 90 = .ok (.invokevirtual 287, 3) := by decide +kernel
theorem dX4_goWrite_93 : decode cX4_goWrite 93 = .ok (.istore 9, 2) := by decide +kernel
theorem dX4_goWrite_95 : decode cX4_goWrite 95 = .ok (.iconst 0, 1) := by decide +kernel
theorem dX4_goWrite_96 : decode cX4_goWrite 96 = .ok (.istore 10, 2) := by decide +kernel
theorem dX4_goWrite_98 : decode cX4_goWrite 98 = .ok (.iload 10, 2) := by decide +kernel
theorem dX4_goWrite_100 : decode cX4_goWrite 100 = .ok (.sipush 3000, 3) := by decide +kernel
theorem dX4_goWrite_103 : decode cX4_goWrite 103 = .ok (.if_icmp .ge 65, 3) := by decide +kernel
theorem dX4_goWrite_106 : decode cX4_goWrite 106 = .ok (.iload 9, 2) := by decide +kernel
theorem dX4_goWrite_108 : decode cX4_goWrite 108 = .ok (.iconst (-1), 1) := by decide +kernel
theorem dX4_goWrite_109 : decode cX4_goWrite 109 = .ok (.if_icmp .eq 59, 3) := by decide +kernel
theorem dX4_goWrite_112 : decode cX4_goWrite 112 = .ok (.aload_n 0, 1) := by decide +kernel
theorem dX4_goWrite_113 : decode cX4_goWrite 113 = .ok (.aload_n 0, 1) := by decide +kernel
theorem dX4_goWrite_114 : decode cX4_goWrite 114 = .ok (.getfield 36, 3) := by decide +kernel
theorem dX4_goWrite_117 : decode cX4_goWrite 117 = .ok (.getfield 170, 3) := by decide +kernel
theorem dX4_goWrite_120 : decode cX4_goWrite 120 = .ok (.iload 9, 2) := by decide +kernel
theorem dX4_goWrite_122 : decode cX4_goWrite 122 = .ok (.iaload, 1) := by decide +kernel
theorem dX4_goWrite_123 : decode cX4_goWrite 123 = .ok (.iconst 0, 1) := by decide +kernel
theorem dX4_goWrite_124 : decode cX4_goWrite 124 = .ok (.aload_n 0, 1) := by decide +kernel
theorem dX4_goWrite_125 : decode cX4_goWrite 125 = .ok (.getfield 36, 3) := by decide +kernel
theorem dX4_goWrite_128 : decode cX4_goWrite 128 = .ok (.getfield 172, 3) := by decide +kernel
theorem dX4_goWrite_131 : decode cX4_goWrite 131 = .ok (.iload 9, 2) := by decide +kernel
theorem dX4_goWrite_133 : decode cX4_goWrite 133 = .ok (.iaload, 1) := by decide +kernel
theorem dX4_goWrite_134 : decode cX4_goWrite 134 = .ok (.lload 7, 2) := by decide +kernel
theorem dX4_goWrite_136 : decode cX4_goWrite 136 = .ok (.invokevirtual 192, 3) := by decide +kernel
theorem dX4_goWrite_139 : decode cX4_goWrite 139 = .ok (.aload_n 0, 1) := by decide +kernel
theorem dX4_goWrite_140 : decode cX4_goWrite 140 = .ok (.getfield 78, 3) := by decide +kernel
theorem dX4_goWrite_143 : decode cX4_goWrite 143 = .ok (.iconst (-1), 1) := by decide +kernel
theorem dX4_goWrite_144 : decode cX4_goWrite 144 = .ok (.if_icmp .ne 15, 3) := by decide +kernel
theorem dX4_goWrite_147 : decode cX4_goWrite 147 = .ok (.aload_n 0, 1) := by decide +kernel
theorem dX4_goWrite_148 : decode cX4_goWrite 148 = .ok (.getfield 12, 3) := by decide +kernel
theorem dX4_goWrite_151 : decode cX4_goWrite 151 = .ok (.iload 4, 2) := by decide +kernel
theorem dX4_goWrite_153 : decode cX4_goWrite 153 = .ok (.invokevirtual 287, 3) := by decide +kernel
theorem dX4_goWrite_156 : decode cX4_goWrite 156 = .ok (.goto 4, 3) := by decide +kernel
theorem dX4_goWrite_159 : decode cX4_goWrite 159 = .ok (.iconst (-1), 1) := by decide +kernel
theorem dX4_goWrite_160 : decode cX4_goWrite 160 = .ok (.istore 9, 2) := by decide +kernel
theorem dX4_goWrite_162 : decode cX4_goWrite 162 = .ok (.iinc 10 1, 3) := by decide +kernel
theorem dX4_goWrite_165 : decode cX4_goWrite 165 = .ok (.goto (-67), 3) := by decide +kernel
theorem dX4_goWrite_168 : decode cX4_goWrite 168 = .ok (.aload_n 0, 1) := by decide +kernel
theorem dX4_goWrite_169 : decode cX4_goWrite 169 = .ok (.iload_n 2, 1) := by decide +kernel
theorem dX4_goWrite_170 : decode cX4_goWrite 170 = .ok (.iconst 0, 1) := by decide +kernel
theorem dX4_goWrite_171 : decode cX4_goWrite 171 = .ok (.iload_n 3, 1) := by decide +kernel
theorem dX4_goWrite_172 : decode cX4_goWrite 172 = .ok (.lload 7, 2) := by decide +kernel
theorem dX4_goWrite_174 : decode cX4_goWrite 174 = .ok (.invokevirtual 192, 3) := by decide +kernel
theorem dX4_goWrite_177 : decode cX4_goWrite 177 = .ok (.return_, 1) := by decide +kernel
theorem dX4_refuseCell_0 : decode cX4_refuseCell 0 = .ok (.aload_n 0, 1) := by decide +kernel
theorem dX4_refuseCell_1 : decode cX4_refuseCell 1 = .ok (.getfield 36, 3) := by decide +kernel
theorem dX4_refuseCell_4 : decode cX4_refuseCell 4 = .ok (.iload_n 1, 1) := by decide +kernel
theorem dX4_refuseCell_5 : decode cX4_refuseCell 5 = .ok (.iconst 0, 1) := by decide +kernel
theorem dX4_refuseCell_6 : decode cX4_refuseCell 6 = .ok (.invokevirtual 175, 3) := by decide +kernel
theorem dX4_refuseCell_9 : decode cX4_refuseCell 9 = .ok (.lstore 4, 2) := by decide +kernel
theorem dX4_refuseCell_11 : decode cX4_refuseCell 11 = .ok (.aload_n 0, 1) := by decide +kernel
theorem dX4_refuseCell_12 : decode cX4_refuseCell 12 = .ok (.getfield 36, 3) := by decide +kernel
theorem dX4_refuseCell_15 : decode cX4_refuseCell 15 = .ok (.iload_n 1, 1) := by decide +kernel
theorem dX4_refuseCell_16 : decode cX4_refuseCell 16 = .ok (.iconst 1, 1) := by decide +kernel
theorem dX4_refuseCell_17 : decode cX4_refuseCell 17 = .ok (.invokevirtual 175, 3) := by decide +kernel
theorem dX4_refuseCell_20 : decode cX4_refuseCell 20 = .ok (.lstore 6, 2) := by decide +kernel
theorem dX4_refuseCell_22 : decode cX4_refuseCell 22 = .ok (.iload_n 2, 1) := by decide +kernel
theorem dX4_refuseCell_23 : decode cX4_refuseCell 23 = .ok (.lload 4, 2) := by decide +kernel
theorem dX4_refuseCell_25 : decode cX4_refuseCell 25 = .ok (.iconst 2, 1) := by decide +kernel
theorem dX4_refuseCell_26 : decode cX4_refuseCell 26 = .ok (.lload 6, 2) := by decide +kernel
theorem dX4_refuseCell_28 : decode cX4_refuseCell 28 = .ok (.iconst 1, 1) := by decide +kernel
theorem dX4_refuseCell_29 : decode cX4_refuseCell 29 = .ok (.invokestatic 290, 3) := by decide +kernel
theorem dX4_refuseCell_32 : decode cX4_refuseCell 32 = .ok (.lstore 8, 2) := by decide +kernel
theorem dX4_refuseCell_34 : decode cX4_refuseCell 34 = .ok (.lload 8, 2) := by decide +kernel
theorem dX4_refuseCell_36 : decode cX4_refuseCell 36 = .ok (.lconst 0, 1) := by decide +kernel
theorem dX4_refuseCell_37 : decode cX4_refuseCell 37 = .ok (.lcmp, 1) := by decide +kernel
theorem dX4_refuseCell_38 : decode cX4_refuseCell 38 = .ok (.ifCond .ne 14, 3) := by decide +kernel
theorem dX4_refuseCell_41 : decode cX4_refuseCell 41 = .ok (.iload_n 3, 1) := by decide +kernel
theorem dX4_refuseCell_42 : decode cX4_refuseCell 42 = .ok (.iconst (-1), 1) := by decide +kernel
theorem dX4_refuseCell_43 : decode cX4_refuseCell 43 = .ok (.if_icmp .ne 9, 3) := by decide +kernel
theorem dX4_refuseCell_46 : decode cX4_refuseCell 46 = .ok (.iconst 2, 1) := by decide +kernel
theorem dX4_refuseCell_47 : decode cX4_refuseCell 47 = .ok (.iload_n 2, 1) := by decide +kernel
theorem dX4_refuseCell_48 : decode cX4_refuseCell 48 = .ok (.invokestatic 241, 3) := by decide +kernel
theorem dX4_refuseCell_51 : decode cX4_refuseCell 51 = .ok (.lreturn, 1) := by decide +kernel
theorem dX4_refuseCell_52 : decode cX4_refuseCell 52 = .ok (.lload 8, 2) := by decide +kernel
theorem dX4_refuseCell_54 : decode cX4_refuseCell 54 = .ok (.lreturn, 1) := by decide +kernel
theorem dX4_placeAsked_0 : decode cX4_placeAsked 0 = .ok (.aload_n 0, 1) := by decide +kernel
theorem dX4_placeAsked_1 : decode cX4_placeAsked 1 = .ok (.getfield 36, 3) := by decide +kernel
theorem dX4_placeAsked_4 : decode cX4_placeAsked 4 = .ok (.iload_n 1, 1) := by decide +kernel
theorem dX4_placeAsked_5 : decode cX4_placeAsked 5 = .ok (.iconst 0, 1) := by decide +kernel
theorem dX4_placeAsked_6 : decode cX4_placeAsked 6 = .ok (.invokevirtual 175, 3) := by decide +kernel
theorem dX4_placeAsked_9 : decode cX4_placeAsked 9 = .ok (.invokestatic 111, 3) := by decide +kernel
theorem dX4_placeAsked_12 : decode cX4_placeAsked 12 = .ok (.istore_n 2, 1) := by decide +kernel
theorem dX4_placeAsked_13 : decode cX4_placeAsked 13 = .ok (.aload_n 0, 1) := by decide +kernel
theorem dX4_placeAsked_14 : decode cX4_placeAsked 14 = .ok (.getfield 12, 3) := by decide +kernel
theorem dX4_placeAsked_17 : decode cX4_placeAsked 17 = .ok (.iload_n 2, 1) := by decide +kernel
theorem dX4_placeAsked_18 : decode cX4_placeAsked 18 = .ok (.aload_n 0, 1) := by decide +kernel
theorem dX4_placeAsked_19 : decode cX4_placeAsked 19 = .ok (.getfield 36, 3) := by decide +kernel
theorem dX4_placeAsked_22 : decode cX4_placeAsked 22 = .ok (.iload_n 1, 1) := by decide +kernel
theorem dX4_placeAsked_23 : decode cX4_placeAsked 23 = .ok (.iconst 1, 1) := by decide +kernel
theorem dX4_placeAsked_24 : decode cX4_placeAsked 24 = .ok (.invokevirtual 175, 3) := by decide +kernel
theorem dX4_placeAsked_27 : decode cX4_placeAsked 27 = .ok (.invokestatic 111, 3) := by decide +kernel
theorem dX4_placeAsked_30 : decode cX4_placeAsked 30 = .ok (.invokevirtual 294, 3) := by decide +kernel
theorem dX4_placeAsked_33 : decode cX4_placeAsked 33 = .ok (.ireturn, 1) := by decide +kernel
theorem dX4_goEnd_0 : decode cX4_goEnd 0 = .ok (.aload_n 0, 1) := by decide +kernel
theorem dX4_goEnd_1 : decode cX4_goEnd 1 = .ok (.getfield 47, 3) := by decide +kernel
theorem dX4_goEnd_4 : decode cX4_goEnd 4 = .ok (.getfield 186, 3) := by decide +kernel
theorem dX4_goEnd_7 : decode cX4_goEnd 7 = .ok (.iload_n 1, 1) := by decide +kernel
theorem dX4_goEnd_8 : decode cX4_goEnd 8 = .ok (.iaload, 1) := by decide +kernel
theorem dX4_goEnd_9 : decode cX4_goEnd 9 = .ok (.istore 5, 2) := by decide +kernel
theorem dX4_goEnd_11 : decode cX4_goEnd 11 = .ok (.iload_n 2, 1) := by decide +kernel
theorem dX4_goEnd_12 : decode cX4_goEnd 12 = .ok (.ifCond .eq 16, 3) := by decide +kernel
theorem dX4_goEnd_15 : decode cX4_goEnd 15 = .ok (.aload_n 0, 1) := by decide +kernel
theorem dX4_goEnd_16 : decode cX4_goEnd 16 = .ok (.dup, 1) := by decide +kernel
theorem dX4_goEnd_17 : decode cX4_goEnd 17 = .ok (.getfield 96, 3) := by decide +kernel
theorem dX4_goEnd_20 : decode cX4_goEnd 20 = .ok (.iconst 1, 1) := by decide +kernel
theorem dX4_goEnd_21 : decode cX4_goEnd 21 = .ok (.iadd, 1) := by decide +kernel
theorem dX4_goEnd_22 : decode cX4_goEnd 22 = .ok (.putfield 96, 3) := by decide +kernel
theorem dX4_goEnd_25 : decode cX4_goEnd 25 = .ok (.goto 31, 3) := by decide +kernel
theorem dX4_goEnd_28 : decode cX4_goEnd 28 = .ok (.aload_n 0, 1) := by decide +kernel
theorem dX4_goEnd_29 : decode cX4_goEnd 29 = .ok (.getfield 22, 3) := by decide +kernel
theorem dX4_goEnd_32 : decode cX4_goEnd 32 = .ok (.iload 5, 2) := by decide +kernel
theorem dX4_goEnd_34 : decode cX4_goEnd 34 = .ok (.laload, 1) := by decide +kernel
theorem dX4_goEnd_35 : decode cX4_goEnd 35 = .ok (.lconst 0, 1) := by decide +kernel
theorem dX4_goEnd_36 : decode cX4_goEnd 36 = .ok (.lcmp, 1) := by decide +kernel
theorem dX4_goEnd_37 : decode cX4_goEnd 37 = .ok (.ifCond .eq 11, 3) := by decide +kernel
theorem dX4_goEnd_40 : decode cX4_goEnd 40 = .ok (.aload_n 0, 1) := by decide +kernel
theorem dX4_goEnd_41 : decode cX4_goEnd 41 = .ok (.iload_n 1, 1) := by decide +kernel
theorem dX4_goEnd_42 : decode cX4_goEnd 42 = .ok (.invokevirtual 284, 3) := by decide +kernel
theorem dX4_goEnd_45 : decode cX4_goEnd 45 = .ok (.goto 11, 3) := by decide +kernel
theorem dX4_goEnd_48 : decode cX4_goEnd 48 = .ok (.aload_n 0, 1) := by decide +kernel
theorem dX4_goEnd_49 : decode cX4_goEnd 49 = .ok (.getfield 22, 3) := by decide +kernel
theorem dX4_goEnd_52 : decode cX4_goEnd 52 = .ok (.iload 5, 2) := by decide +kernel
theorem dX4_goEnd_54 : decode cX4_goEnd 54 = .ok (.lload_n 3, 1) := by decide +kernel
theorem dX4_goEnd_55 : decode cX4_goEnd 55 = .ok (.lastore, 1) := by decide +kernel
theorem dX4_goEnd_56 : decode cX4_goEnd 56 = .ok (.return_, 1) := by decide +kernel
theorem dX4_clashAt_0 : decode cX4_clashAt 0 = .ok (.aload_n 0, 1) := by decide +kernel
theorem dX4_clashAt_1 : decode cX4_clashAt 1 = .ok (.iconst 1, 1) := by decide +kernel
theorem dX4_clashAt_2 : decode cX4_clashAt 2 = .ok (.putfield 78, 3) := by decide +kernel
theorem dX4_clashAt_5 : decode cX4_clashAt 5 = .ok (.aload_n 0, 1) := by decide +kernel
theorem dX4_clashAt_6 : decode cX4_clashAt 6 = .ok (.iload_n 1, 1) := by decide +kernel
theorem dX4_clashAt_7 : decode cX4_clashAt 7 = .ok (.putfield 102, 3) := by decide +kernel
theorem dX4_clashAt_10 : decode cX4_clashAt 10 = .ok (.return_, 1) := by decide +kernel
theorem dX4_give_0 : decode cX4_give 0 = .ok (.iload_n 3, 1) := by decide +kernel
theorem dX4_give_1 : decode cX4_give 1 = .ok (.iconst (-1), 1) := by decide +kernel
theorem dX4_give_2 : decode cX4_give 2 = .ok (.if_icmp .ne 9, 3) := by decide +kernel
theorem dX4_give_5 : decode cX4_give 5 = .ok (.aload_n 0, 1) := by decide +kernel
theorem dX4_give_6 : decode cX4_give 6 = .ok (.iconst 2, 1) := by decide +kernel
theorem dX4_give_7 : decode cX4_give 7 = .ok (.putfield 78, 3) := by decide +kernel
theorem dX4_give_10 : decode cX4_give 10 = .ok (.return_, 1) := by decide +kernel
theorem dX4_give_11 : decode cX4_give 11 = .ok (.aload_n 0, 1) := by decide +kernel
theorem dX4_give_12 : decode cX4_give 12 = .ok (.getfield 47, 3) := by decide +kernel
theorem dX4_give_15 : decode cX4_give 15 = .ok (.iload_n 1, 1) := by decide +kernel
theorem dX4_give_16 : decode cX4_give 16 = .ok (.iload_n 2, 1) := by decide +kernel
theorem dX4_give_17 : decode cX4_give 17 = .ok (.invokevirtual 297, 3) := by decide +kernel
theorem dX4_give_20 : decode cX4_give 20 = .ok (.istore 6, 2) := by decide +kernel
theorem dX4_give_22 : decode cX4_give 22 = .ok (.iconst 0, 1) := by decide +kernel
theorem dX4_give_23 : decode cX4_give 23 = .ok (.istore 7, 2) := by decide +kernel
theorem dX4_give_25 : decode cX4_give 25 = .ok (.iload 7, 2) := by decide +kernel
theorem dX4_give_27 : decode cX4_give 27 = .ok (.sipush 300, 3) := by decide +kernel
theorem dX4_give_30 : decode cX4_give 30 = .ok (.if_icmp .ge 62, 3) := by decide +kernel
theorem dX4_give_33 : decode cX4_give 33 = .ok (.iload 6, 2) := by decide +kernel
theorem dX4_give_35 : decode cX4_give 35 = .ok (.iconst (-1), 1) := by decide +kernel
theorem dX4_give_36 : decode cX4_give 36 = .ok (.if_icmp .eq 56, 3) := by decide +kernel
theorem dX4_give_39 : decode cX4_give 39 = .ok (.aload_n 0, 1) := by decide +kernel
theorem dX4_give_40 : decode cX4_give 40 = .ok (.getfield 78, 3) := by decide +kernel
theorem dX4_give_43 : decode cX4_give 43 = .ok (.iconst (-1), 1) := by decide +kernel
theorem dX4_give_44 : decode cX4_give 44 = .ok (.if_icmp .ne 48, 3) := by decide +kernel
theorem dX4_give_47 : decode cX4_give 47 = .ok (.aload_n 0, 1) := by decide +kernel
theorem dX4_give_48 : decode cX4_give 48 = .ok (.aload_n 0, 1) := by decide +kernel
theorem dX4_give_49 : decode cX4_give 49 = .ok (.getfield 47, 3) := by decide +kernel
theorem dX4_give_52 : decode cX4_give 52 = .ok (.getfield 300, 3) := by decide +kernel
theorem dX4_give_55 : decode cX4_give 55 = .ok (.iload 6, 2) := by decide +kernel
theorem dX4_give_57 : decode cX4_give 57 = .ok (.iaload, 1) := by decide +kernel
theorem dX4_give_58 : decode cX4_give 58 = .ok (.aload_n 0, 1) := by decide +kernel
theorem dX4_give_59 : decode cX4_give 59 = .ok (.getfield 47, 3) := by decide +kernel
theorem dX4_give_62 : decode cX4_give 62 = .ok (.getfield 303, 3) := by decide +kernel
theorem dX4_give_65 : decode cX4_give 65 = .ok (.iload 6, 2) := by decide +kernel
theorem dX4_give_67 : decode cX4_give 67 = .ok (.iaload, 1) := by decide +kernel
theorem dX4_give_68 : decode cX4_give 68 = .ok (.iload_n 3, 1) := by decide +kernel
theorem dX4_give_69 : decode cX4_give 69 = .ok (.lload 4, 2) := by decide +kernel
theorem dX4_give_71 : decode cX4_give 71 = .ok (.invokevirtual 160, 3) := by decide +kernel
theorem dX4_give_74 : decode cX4_give 74 = .ok (.aload_n 0, 1) := by decide +kernel
theorem dX4_give_75 : decode cX4_give 75 = .ok (.getfield 47, 3) := by decide +kernel
theorem dX4_give_78 : decode cX4_give 78 = .ok (.getfield 306, 3) := by decide +kernel
theorem dX4_give_81 : decode cX4_give 81 = .ok (.iload 6, 2) := by decide +kernel
theorem dX4_give_83 : decode cX4_give 83 = .ok (.iaload, 1) := by decide +kernel
theorem dX4_give_84 : decode cX4_give 84 = .ok (.istore 6, 2) := by decide +kernel
theorem dX4_give_86 : decode cX4_give 86 = .ok (.iinc 7 1, 3) := by decide +kernel
theorem dX4_give_89 : decode cX4_give 89 = .ok (.goto (-64), 3) := by decide +kernel
theorem dX4_give_92 : decode cX4_give 92 = .ok (.return_, 1) := by decide +kernel
theorem dX4_arrive_0 : decode cX4_arrive 0 = .ok (.aload_n 0, 1) := by decide +kernel
theorem dX4_arrive_1 : decode cX4_arrive 1 = .ok (.getfield 36, 3) := by decide +kernel
theorem dX4_arrive_4 : decode cX4_arrive 4 = .ok (.iload_n 1, 1) := by decide +kernel
theorem dX4_arrive_5 : decode cX4_arrive 5 = .ok (.iload_n 3, 1) := by decide +kernel
theorem dX4_arrive_6 : decode cX4_arrive 6 = .ok (.invokevirtual 309, 3) := by decide +kernel
theorem dX4_arrive_9 : decode cX4_arrive 9 = .ok (.istore 6, 2) := by decide +kernel
theorem dX4_arrive_11 : decode cX4_arrive 11 = .ok (.iload 6, 2) := by decide +kernel
theorem dX4_arrive_13 : decode cX4_arrive 13 = .ok (.iconst (-1), 1) := by decide +kernel
theorem dX4_arrive_14 : decode cX4_arrive 14 = .ok (.if_icmp .ne 14, 3) := by decide +kernel
theorem dX4_arrive_17 : decode cX4_arrive 17 = .ok (.aload_n 0, 1) := by decide +kernel
theorem dX4_arrive_18 : decode cX4_arrive 18 = .ok (.getfield 36, 3) := by decide +kernel
theorem dX4_arrive_21 : decode cX4_arrive 21 = .ok (.iload_n 1, 1) := by decide +kernel
theorem dX4_arrive_22 : decode cX4_arrive 22 = .ok (.iload_n 3, 1) := by decide +kernel
theorem dX4_arrive_23 : decode cX4_arrive 23 = .ok (.invokevirtual 312, 3) := by decide +kernel
theorem dX4_arrive_26 : decode cX4_arrive 26 = .ok (.istore 6, 2) := by decide +kernel
theorem dX4_arrive_28 : decode cX4_arrive 28 = .ok (.iload 6, 2) := by decide +kernel
theorem dX4_arrive_30 : decode cX4_arrive 30 = .ok (.iconst (-1), 1) := by decide +kernel
theorem dX4_arrive_31 : decode cX4_arrive 31 = .ok (.if_icmp .ne 11, 3) := by decide +kernel
theorem dX4_arrive_34 : decode cX4_arrive 34 = .ok (.aload_n 0, 1) := by decide +kernel
theorem dX4_arrive_35 : decode cX4_arrive 35 = .ok (.iconst 2, 1) := by decide +kernel
theorem dX4_arrive_36 : decode cX4_arrive 36 = .ok (.putfield 78, 3) := by decide +kernel
theorem dX4_arrive_39 : decode cX4_arrive 39 = .ok (.goto 57, 3) := by decide +kernel
theorem dX4_arrive_42 : decode cX4_arrive 42 = .ok (.aload_n 0, 1) := by decide +kernel
theorem dX4_arrive_43 : decode cX4_arrive 43 = .ok (.getfield 36, 3) := by decide +kernel
theorem dX4_arrive_46 : decode cX4_arrive 46 = .ok (.iload 6, 2) := by decide +kernel
theorem dX4_arrive_48 : decode cX4_arrive 48 = .ok (.iload_n 2, 1) := by decide +kernel
theorem dX4_arrive_49 : decode cX4_arrive 49 = .ok (.invokevirtual 315, 3) := by decide +kernel
theorem dX4_arrive_52 : decode cX4_arrive 52 = .ok (.ifCond .eq 11, 3) := by decide +kernel
theorem dX4_arrive_55 : decode cX4_arrive 55 = .ok (.aload_n 0, 1) := by decide +kernel
theorem dX4_arrive_56 : decode cX4_arrive 56 = .ok (.iload_n 1, 1) := by decide +kernel
theorem dX4_arrive_57 : decode cX4_arrive 57 = .ok (.invokevirtual 284, 3) := by decide +kernel
theorem dX4_arrive_60 : decode cX4_arrive 60 = .ok (.goto 36, 3) := by decide +kernel
theorem dX4_arrive_63 : decode cX4_arrive 63 = .ok (.aload_n 0, 1) := by decide +kernel
theorem dX4_arrive_64 : decode cX4_arrive 64 = .ok (.getfield 36, 3) := by decide +kernel
theorem dX4_arrive_67 : decode cX4_arrive 67 = .ok (.iload 6, 2) := by decide +kernel
theorem dX4_arrive_69 : decode cX4_arrive 69 = .ok (.iload_n 2, 1) := by decide +kernel
theorem dX4_arrive_70 : decode cX4_arrive 70 = .ok (.lload 4, 2) := by decide +kernel
theorem dX4_arrive_72 : decode cX4_arrive 72 = .ok (.aload_n 0, 1) := by decide +kernel
theorem dX4_arrive_73 : decode cX4_arrive 73 = .ok (.getfield 47, 3) := by decide +kernel
theorem dX4_arrive_76 : decode cX4_arrive 76 = .ok (.getfield 255, 3) := by decide +kernel
theorem dX4_arrive_79 : decode cX4_arrive 79 = .ok (.iload_n 1, 1) := by decide +kernel
theorem dX4_arrive_80 : decode cX4_arrive 80 = .ok (.iaload, 1) := by decide +kernel
theorem dX4_arrive_81 : decode cX4_arrive 81 = .ok (.invokevirtual 318, 3) := by decide +kernel
theorem dX4_arrive_84 : decode cX4_arrive 84 = .ok (.ifCond .eq 12, 3) := by decide +kernel
theorem dX4_arrive_87 : decode cX4_arrive 87 = .ok (.aload_n 0, 1) := by decide +kernel
theorem dX4_arrive_88 : decode cX4_arrive 88 = .ok (.getfield 43, 3) := by decide +kernel
theorem dX4_arrive_91 : decode cX4_arrive 91 = .ok (.iload 6, 2) := by decide +kernel
theorem dX4_arrive_93 : decode cX4_arrive 93 = .ok (.invokevirtual 322, 3) := by decide +kernel
theorem dX4_arrive_96 : decode cX4_arrive 96 = .ok (.return_, 1) := by decide +kernel
theorem dX5_init_0 : decode cX5_init 0 = .ok (.aload_n 0, 1) := by decide +kernel
theorem dX5_init_1 : decode cX5_init 1 = .ok (.invokespecial 3, 3) := by decide +kernel
theorem dX5_init_4 : decode cX5_init 4 = .ok (.aload_n 0, 1) := by decide +kernel
theorem dX5_init_5 : decode cX5_init 5 = .ok (.sipush 3000, 3) := by decide +kernel
theorem dX5_init_8 : decode cX5_init 8 = .ok (.newarray .int, 2) := by decide +kernel
theorem dX5_init_10 : decode cX5_init 10 = .ok (.putfield 9, 3) := by decide +kernel
theorem dX5_init_13 : decode cX5_init 13 = .ok (.return_, 1) := by decide +kernel
theorem dX5_reset_0 : decode cX5_reset 0 = .ok (.aload_n 0, 1) := by decide +kernel
theorem dX5_reset_1 : decode cX5_reset 1 = .ok (.iconst 0, 1) := by decide +kernel
theorem dX5_reset_2 : decode cX5_reset 2 = .ok (.putfield 15, 3) := by decide +kernel
theorem dX5_reset_5 : decode cX5_reset 5 = .ok (.aload_n 0, 1) := by decide +kernel
theorem dX5_reset_6 : decode cX5_reset 6 = .ok (.iconst 0, 1) := by decide +kernel
theorem dX5_reset_7 : decode cX5_reset 7 = .ok (.putfield 19, 3) := by decide +kernel
theorem dX5_reset_10 : decode cX5_reset 10 = .ok (.return_, 1) := by decide +kernel
theorem dX5_size_0 : decode cX5_size 0 = .ok (.aload_n 0, 1) := by decide +kernel
theorem dX5_size_1 : decode cX5_size 1 = .ok (.getfield 19, 3) := by decide +kernel
theorem dX5_size_4 : decode cX5_size 4 = .ok (.aload_n 0, 1) := by decide +kernel
theorem dX5_size_5 : decode cX5_size 5 = .ok (.getfield 15, 3) := by decide +kernel
theorem dX5_size_8 : decode cX5_size 8 = .ok (.isub, 1) := by decide +kernel
theorem dX5_size_9 : decode cX5_size 9 = .ok (.ireturn, 1) := by decide +kernel
theorem dX5_add_0 : decode cX5_add 0 = .ok (.aload_n 0, 1) := by decide +kernel
theorem dX5_add_1 : decode cX5_add 1 = .ok (.getfield 19, 3) := by decide +kernel
theorem dX5_add_4 : decode cX5_add 4 = .ok (.sipush 3000, 3) := by decide +kernel
theorem dX5_add_7 : decode cX5_add 7 = .ok (.if_icmp .ge 23, 3) := by decide +kernel
theorem dX5_add_10 : decode cX5_add 10 = .ok (.aload_n 0, 1) := by decide +kernel
theorem dX5_add_11 : decode cX5_add 11 = .ok (.getfield 9, 3) := by decide +kernel
theorem dX5_add_14 : decode cX5_add 14 = .ok (.aload_n 0, 1) := by decide +kernel
theorem dX5_add_15 : decode cX5_add 15 = .ok (.getfield 19, 3) := by decide +kernel
theorem dX5_add_18 : decode cX5_add 18 = .ok (.iload_n 1, 1) := by decide +kernel
theorem dX5_add_19 : decode cX5_add 19 = .ok (.iastore, 1) := by decide +kernel
theorem dX5_add_20 : decode cX5_add 20 = .ok (.aload_n 0, 1) := by decide +kernel
theorem dX5_add_21 : decode cX5_add 21 = .ok (.dup, 1) := by decide +kernel
theorem dX5_add_22 : decode cX5_add 22 = .ok (.getfield 19, 3) := by decide +kernel
theorem dX5_add_25 : decode cX5_add 25 = .ok (.iconst 1, 1) := by decide +kernel
theorem dX5_add_26 : decode cX5_add 26 = .ok (.iadd, 1) := by decide +kernel
theorem dX5_add_27 : decode cX5_add 27 = .ok (.putfield 19, 3) := by decide +kernel
theorem dX5_add_30 : decode cX5_add 30 = .ok (.return_, 1) := by decide +kernel
theorem dX5_take_0 : decode cX5_take 0 = .ok (.iload_n 1, 1) := by decide +kernel
theorem dX5_take_1 : decode cX5_take 1 = .ok (.ifCond .lt 11, 3) := by decide +kernel
theorem dX5_take_4 : decode cX5_take 4 = .ok (.iload_n 1, 1) := by decide +kernel
theorem dX5_take_5 : decode cX5_take 5 = .ok (.aload_n 0, 1) := by decide +kernel
theorem dX5_take_6 : decode cX5_take 6 = .ok (.invokevirtual 22, 3) := by decide +kernel
theorem dX5_take_9 : decode cX5_take 9 = .ok (.if_icmp .lt 5, 3) := by decide +kernel
theorem dX5_take_12 : decode cX5_take 12 = .ok (.iconst (-1), 1) := by decide +kernel
theorem dX5_take_13 : decode cX5_take 13 = .ok (.ireturn, 1) := by decide +kernel
theorem dX5_take_14 : decode cX5_take 14 = .ok (.aload_n 0, 1) := by decide +kernel
theorem dX5_take_15 : decode cX5_take 15 = .ok (.getfield 15, 3) := by decide +kernel
theorem dX5_take_18 : decode cX5_take 18 = .ok (.iload_n 1, 1) := by decide +kernel
theorem dX5_take_19 : decode cX5_take 19 = .ok (.iadd, 1) := by decide +kernel
theorem dX5_take_20 : decode cX5_take 20 = .ok (.istore_n 2, 1) := by decide +kernel
theorem dX5_take_21 : decode cX5_take 21 = .ok (.aload_n 0, 1) := by decide +kernel
theorem dX5_take_22 : decode cX5_take 22 = .ok (.getfield 9, 3) := by decide +kernel
theorem dX5_take_25 : decode cX5_take 25 = .ok (.iload_n 2, 1) := by decide +kernel
theorem dX5_take_26 : decode cX5_take 26 = .ok (.iaload, 1) := by decide +kernel
theorem dX5_take_27 : decode cX5_take 27 = .ok (.istore_n 3, 1) := by decide +kernel
theorem dX5_take_28 : decode cX5_take 28 = .ok (.iload_n 1, 1) := by decide +kernel
theorem dX5_take_29 : decode cX5_take 29 = .ok (.ifCond .ne 16, 3) := by decide +kernel
theorem dX5_take_32 : decode cX5_take 32 = .ok (.aload_n 0, 1) := by decide +kernel
theorem dX5_take_33 : decode cX5_take 33 = .ok (.dup, 1) := by decide +kernel
theorem dX5_take_34 : decode cX5_take 34 = .ok (.getfield 15, 3) := by decide +kernel
theorem dX5_take_37 : decode cX5_take 37 = .ok (.iconst 1, 1) := by decide +kernel
theorem dX5_take_38 : decode cX5_take 38 = .ok (.iadd, 1) := by decide +kernel
theorem dX5_take_39 : decode cX5_take 39 = .ok (.putfield 15, 3) := by decide +kernel
theorem dX5_take_42 : decode cX5_take 42 = .ok (.goto 36, 3) := by decide +kernel
theorem dX5_take_45 : decode cX5_take 45 = .ok (.aload_n 0, 1) := by decide +kernel
theorem dX5_take_46 : decode cX5_take 46 = .ok (.getfield 9, 3) := by decide +kernel
theorem dX5_take_49 : decode cX5_take 49 = .ok (.iload_n 2, 1) := by decide +kernel
theorem dX5_take_50 : decode cX5_take 50 = .ok (.iconst 1, 1) := by decide +kernel
theorem dX5_take_51 : decode cX5_take 51 = .ok (.iadd, 1) := by decide +kernel
theorem dX5_take_52 : decode cX5_take 52 = .ok (.aload_n 0, 1) := by decide +kernel
theorem dX5_take_53 : decode cX5_take 53 = .ok (.getfield 9, 3) := by decide +kernel
theorem dX5_take_56 : decode cX5_take 56 = .ok (.iload_n 2, 1) := by decide +kernel
theorem dX5_take_57 : decode cX5_take 57 = .ok (.aload_n 0, 1) := by decide +kernel
theorem dX5_take_58 : decode cX5_take 58 = .ok (.getfield 19, 3) := by decide +kernel
theorem dX5_take_61 : decode cX5_take 61 = .ok (.iload_n 2, 1) := by decide +kernel
theorem dX5_take_62 : decode cX5_take 62 = .ok (.isub, 1) := by decide +kernel
theorem dX5_take_63 : decode cX5_take 63 = .ok (.iconst 1, 1) := by decide +kernel
theorem dX5_take_64 : decode cX5_take 64 = .ok (.isub, 1) := by decide +kernel
theorem dX5_take_65 : decode cX5_take 65 = .ok (.invokestatic 26, 3) := by decide +kernel
theorem dX5_take_68 : decode cX5_take 68 = .ok (.aload_n 0, 1) := by decide +kernel
theorem dX5_take_69 : decode cX5_take 69 = .ok (.dup, 1) := by decide +kernel
theorem dX5_take_70 : decode cX5_take 70 = .ok (.getfield 19, 3) := by decide +kernel
theorem dX5_take_73 : decode cX5_take 73 = .ok (.iconst 1, 1) := by decide +kernel
theorem dX5_take_74 : decode cX5_take 74 = .ok (.isub, 1) := by decide +kernel
theorem dX5_take_75 : decode cX5_take 75 = .ok (.putfield 19, 3) := by decide +kernel
