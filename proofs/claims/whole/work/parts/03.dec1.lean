theorem dX0_init_0 : decode cX0_init 0 = .ok (.aload_n 0, 1) := by decide +kernel
theorem dX0_init_1 : decode cX0_init 1 = .ok (.invokespecial 5, 3) := by decide +kernel
theorem dX0_init_4 : decode cX0_init 4 = .ok (.aload_n 0, 1) := by decide +kernel
theorem dX0_init_5 : decode cX0_init 5 = .ok (.sipush 600, 3) := by decide +kernel
theorem dX0_init_8 : decode cX0_init 8 = .ok (.newarray .int, 2) := by decide +kernel
theorem dX0_init_10 : decode cX0_init 10 = .ok (.putfield 11, 3) := by decide +kernel
theorem dX0_init_13 : decode cX0_init 13 = .ok (.aload_n 0, 1) := by decide +kernel
theorem dX0_init_14 : decode cX0_init 14 = .ok (.sipush 600, 3) := by decide +kernel
theorem dX0_init_17 : decode cX0_init 17 = .ok (.newarray .int, 2) := by decide +kernel
theorem dX0_init_19 : decode cX0_init 19 = .ok (.putfield 15, 3) := by decide +kernel
theorem dX0_init_22 : decode cX0_init 22 = .ok (.aload_n 0, 1) := by decide +kernel
theorem dX0_init_23 : decode cX0_init 23 = .ok (.sipush 600, 3) := by decide +kernel
theorem dX0_init_26 : decode cX0_init 26 = .ok (.newarray .int, 2) := by decide +kernel
theorem dX0_init_28 : decode cX0_init 28 = .ok (.putfield 18, 3) := by decide +kernel
theorem dX0_init_31 : decode cX0_init 31 = .ok (.aload_n 0, 1) := by decide +kernel
theorem dX0_init_32 : decode cX0_init 32 = .ok (.sipush 600, 3) := by decide +kernel
theorem dX0_init_35 : decode cX0_init 35 = .ok (.newarray .int, 2) := by decide +kernel
theorem dX0_init_37 : decode cX0_init 37 = .ok (.putfield 21, 3) := by decide +kernel
theorem dX0_init_40 : decode cX0_init 40 = .ok (.aload_n 0, 1) := by decide +kernel
theorem dX0_init_41 : decode cX0_init 41 = .ok (.sipush 600, 3) := by decide +kernel
theorem dX0_init_44 : decode cX0_init 44 = .ok (.newarray .int, 2) := by decide +kernel
theorem dX0_init_46 : decode cX0_init 46 = .ok (.putfield 24, 3) := by decide +kernel
theorem dX0_init_49 : decode cX0_init 49 = .ok (.return_, 1) := by decide +kernel
theorem dX0_reset_0 : decode cX0_reset 0 = .ok (.aload_n 0, 1) := by decide +kernel
theorem dX0_reset_1 : decode cX0_reset 1 = .ok (.iconst 0, 1) := by decide +kernel
theorem dX0_reset_2 : decode cX0_reset 2 = .ok (.putfield 27, 3) := by decide +kernel
theorem dX0_reset_5 : decode cX0_reset 5 = .ok (.aload_n 0, 1) := by decide +kernel
theorem dX0_reset_6 : decode cX0_reset 6 = .ok (.iconst (-1), 1) := by decide +kernel
theorem dX0_reset_7 : decode cX0_reset 7 = .ok (.iconst (-1), 1) := by decide +kernel
theorem dX0_reset_8 : decode cX0_reset 8 = .ok (.iconst (-1), 1) := by decide +kernel
theorem dX0_reset_9 : decode cX0_reset 9 = .ok (.invokevirtual 31, 3) := by decide +kernel
theorem dX0_reset_12 : decode cX0_reset 12 = .ok (.pop, 1) := by decide +kernel
theorem dX0_reset_13 : decode cX0_reset 13 = .ok (.return_, 1) := by decide +kernel
theorem dX0_enter_0 : decode cX0_enter 0 = .ok (.aload_n 0, 1) := by decide +kernel
theorem dX0_enter_1 : decode cX0_enter 1 = .ok (.iload_n 1, 1) := by decide +kernel
theorem dX0_enter_2 : decode cX0_enter 2 = .ok (.iload_n 2, 1) := by decide +kernel
theorem dX0_enter_3 : decode cX0_enter 3 = .ok (.iload_n 2, 1) := by decide +kernel
theorem dX0_enter_4 : decode cX0_enter 4 = .ok (.iload_n 1, 1) := by decide +kernel
theorem dX0_enter_5 : decode cX0_enter 5 = .ok (.invokevirtual 35, 3) := by decide +kernel
theorem dX0_enter_8 : decode cX0_enter 8 = .ok (.ireturn, 1) := by decide +kernel
theorem dX0_nextTurn_0 : decode cX0_nextTurn 0 = .ok (.aload_n 0, 1) := by decide +kernel
theorem dX0_nextTurn_1 : decode cX0_nextTurn 1 = .ok (.iload_n 1, 1) := by decide +kernel
theorem dX0_nextTurn_2 : decode cX0_nextTurn 2 = .ok (.bipush 90, 2) := by decide +kernel
theorem dX0_nextTurn_4 : decode cX0_nextTurn 4 = .ok (.aload_n 0, 1) := by decide +kernel
theorem dX0_nextTurn_5 : decode cX0_nextTurn 5 = .ok (.getfield 11, 3) := by decide +kernel
theorem dX0_nextTurn_8 : decode cX0_nextTurn 8 = .ok (.iload_n 1, 1) := by decide +kernel
theorem dX0_nextTurn_9 : decode cX0_nextTurn 9 = .ok (.iaload, 1) := by decide +kernel
theorem dX0_nextTurn_10 : decode cX0_nextTurn 10 = .ok (.aload_n 0, 1) := by decide +kernel
theorem dX0_nextTurn_11 : decode cX0_nextTurn 11 = .ok (.getfield 15, 3) := by decide +kernel
theorem dX0_nextTurn_14 : decode cX0_nextTurn 14 = .ok (.iload_n 1, 1) := by decide +kernel
theorem dX0_nextTurn_15 : decode cX0_nextTurn 15 = .ok (.iaload, 1) := by decide +kernel
theorem dX0_nextTurn_16 : decode cX0_nextTurn 16 = .ok (.invokevirtual 35, 3) := by decide +kernel
theorem dX0_nextTurn_19 : decode cX0_nextTurn 19 = .ok (.ireturn, 1) := by decide +kernel
theorem dX0_callBy_0 : decode cX0_callBy 0 = .ok (.aload_n 0, 1) := by decide +kernel
theorem dX0_callBy_1 : decode cX0_callBy 1 = .ok (.iload_n 1, 1) := by decide +kernel
theorem dX0_callBy_2 : decode cX0_callBy 2 = .ok (.bipush 10, 2) := by decide +kernel
theorem dX0_callBy_4 : decode cX0_callBy 4 = .ok (.iload_n 2, 1) := by decide +kernel
theorem dX0_callBy_5 : decode cX0_callBy 5 = .ok (.iadd, 1) := by decide +kernel
theorem dX0_callBy_6 : decode cX0_callBy 6 = .ok (.bipush 10, 2) := by decide +kernel
theorem dX0_callBy_8 : decode cX0_callBy 8 = .ok (.iload_n 2, 1) := by decide +kernel
theorem dX0_callBy_9 : decode cX0_callBy 9 = .ok (.iadd, 1) := by decide +kernel
theorem dX0_callBy_10 : decode cX0_callBy 10 = .ok (.iload_n 1, 1) := by decide +kernel
theorem dX0_callBy_11 : decode cX0_callBy 11 = .ok (.invokevirtual 35, 3) := by decide +kernel
theorem dX0_callBy_14 : decode cX0_callBy 14 = .ok (.ireturn, 1) := by decide +kernel
theorem dX0_isTurnOf_0 : decode cX0_isTurnOf 0 = .ok (.aload_n 0, 1) := by decide +kernel
theorem dX0_isTurnOf_1 : decode cX0_isTurnOf 1 = .ok (.getfield 11, 3) := by decide +kernel
theorem dX0_isTurnOf_4 : decode cX0_isTurnOf 4 = .ok (.iload_n 1, 1) := by decide +kernel
theorem dX0_isTurnOf_5 : decode cX0_isTurnOf 5 = .ok (.iaload, 1) := by decide +kernel
theorem dX0_isTurnOf_6 : decode cX0_isTurnOf 6 = .ok (.iload_n 2, 1) := by decide +kernel
theorem dX0_isTurnOf_7 : decode cX0_isTurnOf 7 = .ok (.if_icmp .ne 7, 3) := by decide +kernel
theorem dX0_isTurnOf_10 : decode cX0_isTurnOf 10 = .ok (.iconst 1, 1) := by decide +kernel
theorem dX0_isTurnOf_11 : decode cX0_isTurnOf 11 = .ok (.goto 4, 3) := by decide +kernel
theorem dX0_isTurnOf_14 : decode cX0_isTurnOf 14 = .ok (.iconst 0, 1) := by decide +kernel
theorem dX0_isTurnOf_15 : decode cX0_isTurnOf 15 = .ok (.ireturn, 1) := by decide +kernel
theorem dX0_outerOf_0 : decode cX0_outerOf 0 = .ok (.aload_n 0, 1) := by decide +kernel
theorem dX0_outerOf_1 : decode cX0_outerOf 1 = .ok (.getfield 15, 3) := by decide +kernel
theorem dX0_outerOf_4 : decode cX0_outerOf 4 = .ok (.iload_n 1, 1) := by decide +kernel
theorem dX0_outerOf_5 : decode cX0_outerOf 5 = .ok (.iaload, 1) := by decide +kernel
theorem dX0_outerOf_6 : decode cX0_outerOf 6 = .ok (.ireturn, 1) := by decide +kernel
theorem dX0_callerOf_0 : decode cX0_callerOf 0 = .ok (.aload_n 0, 1) := by decide +kernel
theorem dX0_callerOf_1 : decode cX0_callerOf 1 = .ok (.getfield 11, 3) := by decide +kernel
theorem dX0_callerOf_4 : decode cX0_callerOf 4 = .ok (.iload_n 1, 1) := by decide +kernel
theorem dX0_callerOf_5 : decode cX0_callerOf 5 = .ok (.iaload, 1) := by decide +kernel
theorem dX0_callerOf_6 : decode cX0_callerOf 6 = .ok (.bipush 10, 2) := by decide +kernel
theorem dX0_callerOf_8 : decode cX0_callerOf 8 = .ok (.if_icmp .lt 15, 3) := by decide +kernel
theorem dX0_callerOf_11 : decode cX0_callerOf 11 = .ok (.aload_n 0, 1) := by decide +kernel
theorem dX0_callerOf_12 : decode cX0_callerOf 12 = .ok (.getfield 11, 3) := by decide +kernel
theorem dX0_callerOf_15 : decode cX0_callerOf 15 = .ok (.iload_n 1, 1) := by decide +kernel
theorem dX0_callerOf_16 : decode cX0_callerOf 16 = .ok (.iaload, 1) := by decide +kernel
theorem dX0_callerOf_17 : decode cX0_callerOf 17 = .ok (.bipush 10, 2) := by decide +kernel
theorem dX0_callerOf_19 : decode cX0_callerOf 19 = .ok (.isub, 1) := by decide +kernel
theorem dX0_callerOf_20 : decode cX0_callerOf 20 = .ok (.goto 4, 3) := by decide +kernel
theorem dX0_callerOf_23 : decode cX0_callerOf 23 = .ok (.iconst (-1), 1) := by decide +kernel
theorem dX0_callerOf_24 : decode cX0_callerOf 24 = .ok (.ireturn, 1) := by decide +kernel
theorem dX0_reach_0 : decode cX0_reach 0 = .ok (.aload_n 0, 1) := by decide +kernel
theorem dX0_reach_1 : decode cX0_reach 1 = .ok (.getfield 21, 3) := by decide +kernel
theorem dX0_reach_4 : decode cX0_reach 4 = .ok (.iload_n 1, 1) := by decide +kernel
theorem dX0_reach_5 : decode cX0_reach 5 = .ok (.iaload, 1) := by decide +kernel
theorem dX0_reach_6 : decode cX0_reach 6 = .ok (.istore 5, 2) := by decide +kernel
theorem dX0_reach_8 : decode cX0_reach 8 = .ok (.iconst 0, 1) := by decide +kernel
theorem dX0_reach_9 : decode cX0_reach 9 = .ok (.istore 6, 2) := by decide +kernel
theorem dX0_reach_11 : decode cX0_reach 11 = .ok (.iload 6, 2) := by decide +kernel
theorem dX0_reach_13 : decode cX0_reach 13 = .ok (.sipush 600, 3) := by decide +kernel
theorem dX0_reach_16 : decode cX0_reach 16 = .ok (.if_icmp .ge 38, 3) := by decide +kernel
theorem dX0_reach_19 : decode cX0_reach 19 = .ok (.iload 5, 2) := by decide +kernel
theorem dX0_reach_21 : decode cX0_reach 21 = .ok (.iconst (-1), 1) := by decide +kernel
theorem dX0_reach_22 : decode cX0_reach 22 = .ok (.if_icmp .eq 32, 3) := by decide +kernel
theorem dX0_reach_25 : decode cX0_reach 25 = .ok (.aload_n 0, 1) := by decide +kernel
theorem dX0_reach_26 : decode cX0_reach 26 = .ok (.getfield 18, 3) := by decide +kernel
theorem dX0_reach_29 : decode cX0_reach 29 = .ok (.iload 5, 2) := by decide +kernel
theorem dX0_reach_31 : decode cX0_reach 31 = .ok (.iaload, 1) := by decide +kernel
theorem dX0_reach_32 : decode cX0_reach 32 = .ok (.iload_n 2, 1) := by decide +kernel
theorem dX0_reach_33 : decode cX0_reach 33 = .ok (.if_icmp .ne 6, 3) := by decide +kernel
theorem dX0_reach_36 : decode cX0_reach 36 = .ok (.iload 5, 2) := by decide +kernel
theorem dX0_reach_38 : decode cX0_reach 38 = .ok (.ireturn, 1) := by decide +kernel
theorem dX0_reach_39 : decode cX0_reach 39 = .ok (.aload_n 0, 1) := by decide +kernel
theorem dX0_reach_40 : decode cX0_reach 40 = .ok (.getfield 24, 3) := by decide +kernel
theorem dX0_reach_43 : decode cX0_reach 43 = .ok (.iload 5, 2) := by decide +kernel
theorem dX0_reach_45 : decode cX0_reach 45 = .ok (.iaload, 1) := by decide +kernel
theorem dX0_reach_46 : decode cX0_reach 46 = .ok (.istore 5, 2) := by decide +kernel
theorem dX0_reach_48 : decode cX0_reach 48 = .ok (.iinc 6 1, 3) := by decide +kernel
theorem dX0_reach_51 : decode cX0_reach 51 = .ok (.goto (-40), 3) := by decide +kernel
theorem dX0_reach_54 : decode cX0_reach 54 = .ok (.aload_n 0, 1) := by decide +kernel
theorem dX0_reach_55 : decode cX0_reach 55 = .ok (.getfield 27, 3) := by decide +kernel
theorem dX0_reach_58 : decode cX0_reach 58 = .ok (.sipush 600, 3) := by decide +kernel
theorem dX0_reach_61 : decode cX0_reach 61 = .ok (.if_icmp .lt 5, 3) := by decide +kernel
theorem dX0_reach_64 : decode cX0_reach 64 = .ok (.iconst (-1), 1) := by decide +kernel
theorem dX0_reach_65 : decode cX0_reach 65 = .ok (.ireturn, 1) := by decide +kernel
theorem dX0_reach_66 : decode cX0_reach 66 = .ok (.aload_n 0, 1) := by decide +kernel
theorem dX0_reach_67 : decode cX0_reach 67 = .ok (.iload_n 2, 1) := by decide +kernel
theorem dX0_reach_68 : decode cX0_reach 68 = .ok (.iload_n 3, 1) := by decide +kernel
theorem dX0_reach_69 : decode cX0_reach 69 = .ok (.iload 4, 2) := by decide +kernel
theorem dX0_reach_71 : decode cX0_reach 71 = .ok (.invokevirtual 31, 3) := by decide +kernel
theorem dX0_reach_74 : decode cX0_reach 74 = .ok (.istore 6, 2) := by decide +kernel
theorem dX0_reach_76 : decode cX0_reach 76 = .ok (.aload_n 0, 1) := by decide +kernel
theorem dX0_reach_77 : decode cX0_reach 77 = .ok (.getfield 24, 3) := by decide +kernel
theorem dX0_reach_80 : decode cX0_reach 80 = .ok (.iload 6, 2) := by decide +kernel
theorem dX0_reach_82 : decode cX0_reach 82 = .ok (.aload_n 0, 1) := by decide +kernel
theorem dX0_reach_83 : decode cX0_reach 83 = .ok (.getfield 21, 3) := by decide +kernel
theorem dX0_reach_86 : decode cX0_reach 86 = .ok (.iload_n 1, 1) := by decide +kernel
theorem dX0_reach_87 : decode cX0_reach 87 = .ok (.iaload, 1) := by decide +kernel
theorem dX0_reach_88 : decode cX0_reach 88 = .ok (.iastore, 1) := by decide +kernel
theorem dX0_reach_89 : decode cX0_reach 89 = .ok (.aload_n 0, 1) := by decide +kernel
theorem dX0_reach_90 : decode cX0_reach 90 = .ok (.getfield 21, 3) := by decide +kernel
theorem dX0_reach_93 : decode cX0_reach 93 = .ok (.iload_n 1, 1) := by decide +kernel
theorem dX0_reach_94 : decode cX0_reach 94 = .ok (.iload 6, 2) := by decide +kernel
theorem dX0_reach_96 : decode cX0_reach 96 = .ok (.iastore, 1) := by decide +kernel
theorem dX0_reach_97 : decode cX0_reach 97 = .ok (.iload 6, 2) := by decide +kernel
theorem dX0_reach_99 : decode cX0_reach 99 = .ok (.ireturn, 1) := by decide +kernel
theorem dX0_add_0 : decode cX0_add 0 = .ok (.aload_n 0, 1) := by decide +kernel
theorem dX0_add_1 : decode cX0_add 1 = .ok (.getfield 27, 3) := by decide +kernel
theorem dX0_add_4 : decode cX0_add 4 = .ok (.istore 4, 2) := by decide +kernel
theorem dX0_add_6 : decode cX0_add 6 = .ok (.aload_n 0, 1) := by decide +kernel
theorem dX0_add_7 : decode cX0_add 7 = .ok (.dup, 1) := by decide +kernel
theorem dX0_add_8 : decode cX0_add 8 = .ok (.getfield 27, 3) := by decide +kernel
theorem dX0_add_11 : decode cX0_add 11 = .ok (.iconst 1, 1) := by decide +kernel
theorem dX0_add_12 : decode cX0_add 12 = .ok (.iadd, 1) := by decide +kernel
theorem dX0_add_13 : decode cX0_add 13 = .ok (.putfield 27, 3) := by decide +kernel
theorem dX0_add_16 : decode cX0_add 16 = .ok (.aload_n 0, 1) := by decide +kernel
theorem dX0_add_17 : decode cX0_add 17 = .ok (.getfield 18, 3) := by decide +kernel
theorem dX0_add_20 : decode cX0_add 20 = .ok (.iload 4, 2) := by decide +kernel
theorem dX0_add_22 : decode cX0_add 22 = .ok (.iload_n 1, 1) := by decide +kernel
theorem dX0_add_23 : decode cX0_add 23 = .ok (.iastore, 1) := by decide +kernel
theorem dX0_add_24 : decode cX0_add 24 = .ok (.aload_n 0, 1) := by decide +kernel
theorem dX0_add_25 : decode cX0_add 25 = .ok (.getfield 11, 3) := by decide +kernel
theorem dX0_add_28 : decode cX0_add 28 = .ok (.iload 4, 2) := by decide +kernel
theorem dX0_add_30 : decode cX0_add 30 = .ok (.iload_n 2, 1) := by decide +kernel
theorem dX0_add_31 : decode cX0_add 31 = .ok (.iastore, 1) := by decide +kernel
theorem dX0_add_32 : decode cX0_add 32 = .ok (.aload_n 0, 1) := by decide +kernel
theorem dX0_add_33 : decode cX0_add 33 = .ok (.getfield 15, 3) := by decide +kernel
theorem dX0_add_36 : decode cX0_add 36 = .ok (.iload 4, 2) := by decide +kernel
theorem dX0_add_38 : decode cX0_add 38 = .ok (.iload_n 3, 1) := by decide +kernel
theorem dX0_add_39 : decode cX0_add 39 = .ok (.iastore, 1) := by decide +kernel
theorem dX0_add_40 : decode cX0_add 40 = .ok (.aload_n 0, 1) := by decide +kernel
theorem dX0_add_41 : decode cX0_add 41 = .ok (.getfield 21, 3) := by decide +kernel
theorem dX0_add_44 : decode cX0_add 44 = .ok (.iload 4, 2) := by decide +kernel
theorem dX0_add_46 : decode cX0_add 46 = .ok (.iconst (-1), 1) := by decide +kernel
theorem dX0_add_47 : decode cX0_add 47 = .ok (.iastore, 1) := by decide +kernel
theorem dX0_add_48 : decode cX0_add 48 = .ok (.aload_n 0, 1) := by decide +kernel
theorem dX0_add_49 : decode cX0_add 49 = .ok (.getfield 24, 3) := by decide +kernel
theorem dX0_add_52 : decode cX0_add 52 = .ok (.iload 4, 2) := by decide +kernel
theorem dX0_add_54 : decode cX0_add 54 = .ok (.iconst (-1), 1) := by decide +kernel
theorem dX0_add_55 : decode cX0_add 55 = .ok (.iastore, 1) := by decide +kernel
theorem dX0_add_56 : decode cX0_add 56 = .ok (.iload 4, 2) := by decide +kernel
theorem dX0_add_58 : decode cX0_add 58 = .ok (.ireturn, 1) := by decide +kernel
theorem dX1_init_0 : decode cX1_init 0 = .ok (.aload_n 0, 1) := by decide +kernel
theorem dX1_init_1 : decode cX1_init 1 = .ok (.invokespecial 3, 3) := by decide +kernel
theorem dX1_init_4 : decode cX1_init 4 = .ok (.aload_n 0, 1) := by decide +kernel
theorem dX1_init_5 : decode cX1_init 5 = .ok (.sipush 3000, 3) := by decide +kernel
theorem dX1_init_8 : decode cX1_init 8 = .ok (.newarray .int, 2) := by decide +kernel
theorem dX1_init_10 : decode cX1_init 10 = .ok (.putfield 9, 3) := by decide +kernel
theorem dX1_init_13 : decode cX1_init 13 = .ok (.aload_n 0, 1) := by decide +kernel
theorem dX1_init_14 : decode cX1_init 14 = .ok (.sipush 3000, 3) := by decide +kernel
theorem dX1_init_17 : decode cX1_init 17 = .ok (.newarray .int, 2) := by decide +kernel
theorem dX1_init_19 : decode cX1_init 19 = .ok (.putfield 15, 3) := by decide +kernel
theorem dX1_init_22 : decode cX1_init 22 = .ok (.aload_n 0, 1) := by decide +kernel
theorem dX1_init_23 : decode cX1_init 23 = .ok (.sipush 3000, 3) := by decide +kernel
theorem dX1_init_26 : decode cX1_init 26 = .ok (.newarray .int, 2) := by decide +kernel
theorem dX1_init_28 : decode cX1_init 28 = .ok (.putfield 18, 3) := by decide +kernel
theorem dX1_init_31 : decode cX1_init 31 = .ok (.aload_n 0, 1) := by decide +kernel
theorem dX1_init_32 : decode cX1_init 32 = .ok (.sipush 9000, 3) := by decide +kernel
theorem dX1_init_35 : decode cX1_init 35 = .ok (.newarray .long, 2) := by decide +kernel
theorem dX1_init_37 : decode cX1_init 37 = .ok (.putfield 21, 3) := by decide +kernel
theorem dX1_init_40 : decode cX1_init 40 = .ok (.aload_n 0, 1) := by decide +kernel
theorem dX1_init_41 : decode cX1_init 41 = .ok (.sipush 600, 3) := by decide +kernel
theorem dX1_init_44 : decode cX1_init 44 = .ok (.newarray .int, 2) := by decide +kernel
theorem dX1_init_46 : decode cX1_init 46 = .ok (.putfield 25, 3) := by decide +kernel
theorem dX1_init_49 : decode cX1_init 49 = .ok (.aload_n 0, 1) := by decide +kernel
theorem dX1_init_50 : decode cX1_init 50 = .ok (.sipush 3000, 3) := by decide +kernel
theorem dX1_init_53 : decode cX1_init 53 = .ok (.newarray .int, 2) := by decide +kernel
theorem dX1_init_55 : decode cX1_init 55 = .ok (.putfield 28, 3) := by decide +kernel
theorem dX1_init_58 : decode cX1_init 58 = .ok (.return_, 1) := by decide +kernel
theorem dX1_reset_0 : decode cX1_reset 0 = .ok (.aload_n 0, 1) := by decide +kernel
theorem dX1_reset_1 : decode cX1_reset 1 = .ok (.iconst 0, 1) := by decide +kernel
theorem dX1_reset_2 : decode cX1_reset 2 = .ok (.putfield 31, 3) := by decide +kernel
theorem dX1_reset_5 : decode cX1_reset 5 = .ok (.aload_n 0, 1) := by decide +kernel
theorem dX1_reset_6 : decode cX1_reset 6 = .ok (.iconst 0, 1) := by decide +kernel
theorem dX1_reset_7 : decode cX1_reset 7 = .ok (.putfield 35, 3) := by decide +kernel
theorem dX1_reset_10 : decode cX1_reset 10 = .ok (.aload_n 0, 1) := by decide +kernel
theorem dX1_reset_11 : decode cX1_reset 11 = .ok (.getfield 25, 3) := by decide +kernel
theorem dX1_reset_14 : decode cX1_reset 14 = .ok (.iconst (-1), 1) := by decide +kernel
theorem dX1_reset_15 : decode cX1_reset 15 = .ok (.invokestatic 38, 3) := by decide +kernel
theorem dX1_reset_18 : decode cX1_reset 18 = .ok (.return_, 1) := by decide +kernel
theorem dX1_find_0 : decode cX1_find 0 = .ok (.aload_n 0, 1) := by decide +kernel
theorem dX1_find_1 : decode cX1_find 1 = .ok (.getfield 25, 3) := by decide +kernel
theorem dX1_find_4 : decode cX1_find 4 = .ok (.iload_n 2, 1) := by decide +kernel
theorem dX1_find_5 : decode cX1_find 5 = .ok (.iaload, 1) := by decide +kernel
theorem dX1_find_6 : decode cX1_find 6 = .ok (.istore_n 3, 1) := by decide +kernel
theorem dX1_find_7 : decode cX1_find 7 = .ok (.iconst 0, 1) := by decide +kernel
theorem dX1_find_8 : decode cX1_find 8 = .ok (.istore 4, 2) := by decide +kernel
theorem dX1_find_10 : decode cX1_find 10 = .ok (.iload 4, 2) := by decide +kernel
theorem dX1_find_12 : decode cX1_find 12 = .ok (.bipush 80, 2) := by decide +kernel
theorem dX1_find_14 : decode cX1_find 14 = .ok (.if_icmp .ge 33, 3) := by decide +kernel
theorem dX1_find_17 : decode cX1_find 17 = .ok (.iload_n 3, 1) := by decide +kernel
theorem dX1_find_18 : decode cX1_find 18 = .ok (.iconst (-1), 1) := by decide +kernel
theorem dX1_find_19 : decode cX1_find 19 = .ok (.if_icmp .eq 28, 3) := by decide +kernel
theorem dX1_find_22 : decode cX1_find 22 = .ok (.aload_n 0, 1) := by decide +kernel
theorem dX1_find_23 : decode cX1_find 23 = .ok (.getfield 9, 3) := by decide +kernel
theorem dX1_find_26 : decode cX1_find 26 = .ok (.iload_n 3, 1) := by decide +kernel
theorem dX1_find_27 : decode cX1_find 27 = .ok (.iaload, 1) := by decide +kernel
theorem dX1_find_28 : decode cX1_find 28 = .ok (.iload_n 1, 1) := by decide +kernel
theorem dX1_find_29 : decode cX1_find 29 = .ok (.if_icmp .ne 5, 3) := by decide +kernel
theorem dX1_find_32 : decode cX1_find 32 = .ok (.iload_n 3, 1) := by decide +kernel
theorem dX1_find_33 : decode cX1_find 33 = .ok (.ireturn, 1) := by decide +kernel
theorem dX1_find_34 : decode cX1_find 34 = .ok (.aload_n 0, 1) := by decide +kernel
theorem dX1_find_35 : decode cX1_find 35 = .ok (.getfield 28, 3) := by decide +kernel
theorem dX1_find_38 : decode cX1_find 38 = .ok (.iload_n 3, 1) := by decide +kernel
theorem dX1_find_39 : decode cX1_find 39 = .ok (.iaload, 1) := by decide +kernel
theorem dX1_find_40 : decode cX1_find 40 = .ok (.istore_n 3, 1) := by decide +kernel
theorem dX1_find_41 : decode cX1_find 41 = .ok (.iinc 4 1, 3) := by decide +kernel
theorem dX1_find_44 : decode cX1_find 44 = .ok (.goto (-34), 3) := by decide +kernel
theorem dX1_find_47 : decode cX1_find 47 = .ok (.iconst (-1), 1) := by decide +kernel
theorem dX1_find_48 : decode cX1_find 48 = .ok (.ireturn, 1) := by decide +kernel
theorem dX1_add_0 : decode cX1_add 0 = .ok (.aload_n 0, 1) := by decide +kernel
theorem dX1_add_1 : decode cX1_add 1 = .ok (.getfield 35, 3) := by decide +kernel
theorem dX1_add_4 : decode cX1_add 4 = .ok (.sipush 3000, 3) := by decide +kernel
theorem dX1_add_7 : decode cX1_add 7 = .ok (.if_icmp .lt 5, 3) := by decide +kernel
theorem dX1_add_10 : decode cX1_add 10 = .ok (.iconst (-1), 1) := by decide +kernel
theorem dX1_add_11 : decode cX1_add 11 = .ok (.ireturn, 1) := by decide +kernel
theorem dX1_add_12 : decode cX1_add 12 = .ok (.aload_n 0, 1) := by decide +kernel
theorem dX1_add_13 : decode cX1_add 13 = .ok (.getfield 35, 3) := by decide +kernel
theorem dX1_add_16 : decode cX1_add 16 = .ok (.istore_n 3, 1) := by decide +kernel
theorem dX1_add_17 : decode cX1_add 17 = .ok (.aload_n 0, 1) := by decide +kernel
theorem dX1_add_18 : decode cX1_add 18 = .ok (.dup, 1) := by decide +kernel
theorem dX1_add_19 : decode cX1_add 19 = .ok (.getfield 35, 3) := by decide +kernel
theorem dX1_add_22 : decode cX1_add 22 = .ok (.iconst 1, 1) := by decide +kernel
theorem dX1_add_23 : decode cX1_add 23 = .ok (.iadd, 1) := by decide +kernel
theorem dX1_add_24 : decode cX1_add 24 = .ok (.putfield 35, 3) := by decide +kernel
theorem dX1_add_27 : decode cX1_add 27 = .ok (.aload_n 0, 1) := by decide +kernel
theorem dX1_add_28 : decode cX1_add 28 = .ok (.getfield 9, 3) := by decide +kernel
theorem dX1_add_31 : decode cX1_add 31 = .ok (.iload_n 3, 1) := by decide +kernel
theorem dX1_add_32 : decode cX1_add 32 = .ok (.iload_n 1, 1) := by decide +kernel
theorem dX1_add_33 : decode cX1_add 33 = .ok (.iastore, 1) := by decide +kernel
theorem dX1_add_34 : decode cX1_add 34 = .ok (.aload_n 0, 1) := by decide +kernel
theorem dX1_add_35 : decode cX1_add 35 = .ok (.getfield 15, 3) := by decide +kernel
theorem dX1_add_38 : decode cX1_add 38 = .ok (.iload_n 3, 1) := by decide +kernel
theorem dX1_add_39 : decode cX1_add 39 = .ok (.iload_n 2, 1) := by decide +kernel
theorem dX1_add_40 : decode cX1_add 40 = .ok (.iastore, 1) := by decide +kernel
theorem dX1_add_41 : decode cX1_add 41 = .ok (.aload_n 0, 1) := by decide +kernel
theorem dX1_add_42 : decode cX1_add 42 = .ok (.getfield 18, 3) := by decide +kernel
theorem dX1_add_45 : decode cX1_add 45 = .ok (.iload_n 3, 1) := by decide +kernel
theorem dX1_add_46 : decode cX1_add 46 = .ok (.iconst 0, 1) := by decide +kernel
theorem dX1_add_47 : decode cX1_add 47 = .ok (.iastore, 1) := by decide +kernel
theorem dX1_add_48 : decode cX1_add 48 = .ok (.aload_n 0, 1) := by decide +kernel
theorem dX1_add_49 : decode cX1_add 49 = .ok (.getfield 28, 3) := by decide +kernel
theorem dX1_add_52 : decode cX1_add 52 = .ok (.iload_n 3, 1) := by decide +kernel
theorem dX1_add_53 : decode cX1_add 53 = .ok (.aload_n 0, 1) := by decide +kernel
theorem dX1_add_54 : decode cX1_add 54 = .ok (.getfield 25, 3) := by decide +kernel
theorem dX1_add_57 : decode cX1_add 57 = .ok (.iload_n 2, 1) := by decide +kernel
theorem dX1_add_58 : decode cX1_add 58 = .ok (.iaload, 1) := by decide +kernel
theorem dX1_add_59 : decode cX1_add 59 = .ok (.iastore, 1) := by decide +kernel
theorem dX1_add_60 : decode cX1_add 60 = .ok (.aload_n 0, 1) := by decide +kernel
theorem dX1_add_61 : decode cX1_add 61 = .ok (.getfield 25, 3) := by decide +kernel
theorem dX1_add_64 : decode cX1_add 64 = .ok (.iload_n 2, 1) := by decide +kernel
theorem dX1_add_65 : decode cX1_add 65 = .ok (.iload_n 3, 1) := by decide +kernel
theorem dX1_add_66 : decode cX1_add 66 = .ok (.iastore, 1) := by decide +kernel
theorem dX1_add_67 : decode cX1_add 67 = .ok (.iload_n 3, 1) := by decide +kernel
theorem dX1_add_68 : decode cX1_add 68 = .ok (.ireturn, 1) := by decide +kernel
theorem dX1_hadToken_0 : decode cX1_hadToken 0 = .ok (.aload_n 0, 1) := by decide +kernel
theorem dX1_hadToken_1 : decode cX1_hadToken 1 = .ok (.getfield 18, 3) := by decide +kernel
theorem dX1_hadToken_4 : decode cX1_hadToken 4 = .ok (.iload_n 1, 1) := by decide +kernel
theorem dX1_hadToken_5 : decode cX1_hadToken 5 = .ok (.iaload, 1) := by decide +kernel
theorem dX1_hadToken_6 : decode cX1_hadToken 6 = .ok (.iload_n 2, 1) := by decide +kernel
theorem dX1_hadToken_7 : decode cX1_hadToken 7 = .ok (.ishr, 1) := by decide +kernel
theorem dX1_hadToken_8 : decode cX1_hadToken 8 = .ok (.iconst 1, 1) := by decide +kernel
theorem dX1_hadToken_9 : decode cX1_hadToken 9 = .ok (.iand, 1) := by decide +kernel
theorem dX1_hadToken_10 : decode cX1_hadToken 10 = .ok (.iconst 1, 1) := by decide +kernel
theorem dX1_hadToken_11 : decode cX1_hadToken 11 = .ok (.if_icmp .ne 7, 3) := by decide +kernel
theorem dX1_hadToken_14 : decode cX1_hadToken 14 = .ok (.iconst 1, 1) := by decide +kernel
theorem dX1_hadToken_15 : decode cX1_hadToken 15 = .ok (.goto 4, 3) := by decide +kernel
theorem dX1_hadToken_18 : decode cX1_hadToken 18 = .ok (.iconst 0, 1) := by decide +kernel
theorem dX1_hadToken_19 : decode cX1_hadToken 19 = .ok (.ireturn, 1) := by decide +kernel
theorem dX1_put_0 : decode cX1_put 0 = .ok (.aload_n 0, 1) := by decide +kernel
theorem dX1_put_1 : decode cX1_put 1 = .ok (.getfield 18, 3) := by decide +kernel
theorem dX1_put_4 : decode cX1_put 4 = .ok (.iload_n 1, 1) := by decide +kernel
theorem dX1_put_5 : decode cX1_put 5 = .ok (.dup2, 1) := by decide +kernel
theorem dX1_put_6 : decode cX1_put 6 = .ok (.iaload, 1) := by decide +kernel
theorem dX1_put_7 : decode cX1_put 7 = .ok (.iconst 1, 1) := by decide +kernel
theorem dX1_put_8 : decode cX1_put 8 = .ok (.iload_n 2, 1) := by decide +kernel
theorem dX1_put_9 : decode cX1_put 9 = .ok (.ishl, 1) := by decide +kernel
theorem dX1_put_10 : decode cX1_put 10 = .ok (.ior, 1) := by decide +kernel
theorem dX1_put_11 : decode cX1_put 11 = .ok (.iastore, 1) := by decide +kernel
theorem dX1_put_12 : decode cX1_put 12 = .ok (.aload_n 0, 1) := by decide +kernel
theorem dX1_put_13 : decode cX1_put 13 = .ok (.getfield 21, 3) := by decide +kernel
theorem dX1_put_16 : decode cX1_put 16 = .ok (.iconst 3, 1) := by decide +kernel
theorem dX1_put_17 : decode cX1_put 17 = .ok (.iload_n 1, 1) := by decide +kernel
theorem dX1_put_18 : decode cX1_put 18 = .ok (.imul, 1) := by decide +kernel
theorem dX1_put_19 : decode cX1_put 19 = .ok (.iload_n 2, 1) := by decide +kernel
theorem dX1_put_20 : decode cX1_put 20 = .ok (.iadd, 1) := by decide +kernel
theorem dX1_put_21 : decode cX1_put 21 = .ok (.lload_n 3, 1) := by decide +kernel
theorem dX1_put_22 : decode cX1_put 22 = .ok (.lastore, 1) := by decide +kernel
theorem dX1_put_23 : decode cX1_put 23 = .ok (.aload_n 0, 1) := by decide +kernel
theorem dX1_put_24 : decode cX1_put 24 = .ok (.dup, 1) := by decide +kernel
theorem dX1_put_25 : decode cX1_put 25 = .ok (.getfield 31, 3) := by decide +kernel
theorem dX1_put_28 : decode cX1_put 28 = .ok (.iconst 1, 1) := by decide +kernel
theorem dX1_put_29 : decode cX1_put 29 = .ok (.iadd, 1) := by decide +kernel
theorem dX1_put_30 : decode cX1_put 30 = .ok (.putfield 31, 3) := by decide +kernel
theorem dX1_put_33 : decode cX1_put 33 = .ok (.aload_n 0, 1) := by decide +kernel
theorem dX1_put_34 : decode cX1_put 34 = .ok (.getfield 18, 3) := by decide +kernel
theorem dX1_put_37 : decode cX1_put 37 = .ok (.iload_n 1, 1) := by decide +kernel
theorem dX1_put_38 : decode cX1_put 38 = .ok (.iaload, 1) := by decide +kernel
theorem dX1_put_39 : decode cX1_put 39 = .ok (.iconst 1, 1) := by decide +kernel
theorem dX1_put_40 : decode cX1_put 40 = .ok (.iload 5, 2) := by decide +kernel
theorem dX1_put_42 : decode cX1_put 42 = .ok (.ishl, 1) := by decide +kernel
theorem dX1_put_43 : decode cX1_put 43 = .ok (.iconst 1, 1) := by decide +kernel
theorem dX1_put_44 : decode cX1_put 44 = .ok (.isub, 1) := by decide +kernel
theorem dX1_put_45 : decode cX1_put 45 = .ok (.if_icmp .ne 7, 3) := by decide +kernel
theorem dX1_put_48 : decode cX1_put 48 = .ok (.iconst 1, 1) := by decide +kernel
theorem dX1_put_49 : decode cX1_put 49 = .ok (.goto 4, 3) := by decide +kernel
theorem dX1_put_52 : decode cX1_put 52 = .ok (.iconst 0, 1) := by decide +kernel
theorem dX1_put_53 : decode cX1_put 53 = .ok (.istore 6, 2) := by decide +kernel
theorem dX1_put_55 : decode cX1_put 55 = .ok (.iload 6, 2) := by decide +kernel
theorem dX1_put_57 : decode cX1_put 57 = .ok (.ifCond .eq 14, 3) := by decide +kernel
theorem dX1_put_60 : decode cX1_put 60 = .ok (.aload_n 0, 1) := by decide +kernel
theorem dX1_put_61 : decode cX1_put 61 = .ok (.dup, 1) := by decide +kernel
theorem dX1_put_62 : decode cX1_put 62 = .ok (.getfield 31, 3) := by decide +kernel
theorem dX1_put_65 : decode cX1_put 65 = .ok (.iload 5, 2) := by decide +kernel
theorem dX1_put_67 : decode cX1_put 67 = .ok (.isub, 1) := by decide +kernel
theorem dX1_put_68 : decode cX1_put 68 = .ok (.putfield 31, 3) := by decide +kernel
theorem dX1_put_71 : decode cX1_put 71 = .ok (.iload 6, 2) := by decide +kernel
theorem dX1_put_73 : decode cX1_put 73 = .ok (.ireturn, 1) := by decide +kernel
theorem dX1_cameTo_0 : decode cX1_cameTo 0 = .ok (.aload_n 0, 1) := by decide +kernel
theorem dX1_cameTo_1 : decode cX1_cameTo 1 = .ok (.getfield 21, 3) := by decide +kernel
theorem dX1_cameTo_4 : decode cX1_cameTo 4 = .ok (.iconst 3, 1) := by decide +kernel
theorem dX1_cameTo_5 : decode cX1_cameTo 5 = .ok (.iload_n 1, 1) := by decide +kernel
theorem dX1_cameTo_6 : decode cX1_cameTo 6 = .ok (.imul, 1) := by decide +kernel
theorem dX1_cameTo_7 : decode cX1_cameTo 7 = .ok (.iload_n 2, 1) := by decide +kernel
theorem dX1_cameTo_8 : decode cX1_cameTo 8 = .ok (.iadd, 1) := by decide +kernel
theorem dX1_cameTo_9 : decode cX1_cameTo 9 = .ok (.laload, 1) := by decide +kernel
theorem dX1_cameTo_10 : decode cX1_cameTo 10 = .ok (.lreturn, 1) := by decide +kernel
theorem dX2_init_0 : decode cX2_init 0 = .ok (.aload_n 0, 1) := by decide +kernel
theorem dX2_init_1 : decode cX2_init 1 = .ok (.invokespecial 3, 3) := by decide +kernel
theorem dX2_init_4 : decode cX2_init 4 = .ok (.aload_n 0, 1) := by decide +kernel
theorem dX2_init_5 : decode cX2_init 5 = .ok (.bipush 80, 2) := by decide +kernel
theorem dX2_init_7 : decode cX2_init 7 = .ok (.newarray .int, 2) := by decide +kernel
theorem dX2_init_9 : decode cX2_init 9 = .ok (.putfield 9, 3) := by decide +kernel
theorem dX2_init_12 : decode cX2_init 12 = .ok (.aload_n 0, 1) := by decide +kernel
theorem dX2_init_13 : decode cX2_init 13 = .ok (.bipush 80, 2) := by decide +kernel
theorem dX2_init_15 : decode cX2_init 15 = .ok (.newarray .int, 2) := by decide +kernel
theorem dX2_init_17 : decode cX2_init 17 = .ok (.putfield 15, 3) := by decide +kernel
theorem dX2_init_20 : decode cX2_init 20 = .ok (.aload_n 0, 1) := by decide +kernel
theorem dX2_init_21 : decode cX2_init 21 = .ok (.bipush 80, 2) := by decide +kernel
theorem dX2_init_23 : decode cX2_init 23 = .ok (.newarray .int, 2) := by decide +kernel
theorem dX2_init_25 : decode cX2_init 25 = .ok (.putfield 18, 3) := by decide +kernel
theorem dX2_init_28 : decode cX2_init 28 = .ok (.aload_n 0, 1) := by decide +kernel
theorem dX2_init_29 : decode cX2_init 29 = .ok (.bipush 100, 2) := by decide +kernel
theorem dX2_init_31 : decode cX2_init 31 = .ok (.newarray .int, 2) := by decide +kernel
theorem dX2_init_33 : decode cX2_init 33 = .ok (.putfield 21, 3) := by decide +kernel
theorem dX2_init_36 : decode cX2_init 36 = .ok (.aload_n 0, 1) := by decide +kernel
theorem dX2_init_37 : decode cX2_init 37 = .ok (.sipush 300, 3) := by decide +kernel
theorem dX2_init_40 : decode cX2_init 40 = .ok (.newarray .int, 2) := by decide +kernel
theorem dX2_init_42 : decode cX2_init 42 = .ok (.putfield 24, 3) := by decide +kernel
theorem dX2_init_45 : decode cX2_init 45 = .ok (.aload_n 0, 1) := by decide +kernel
theorem dX2_init_46 : decode cX2_init 46 = .ok (.sipush 300, 3) := by decide +kernel
theorem dX2_init_49 : decode cX2_init 49 = .ok (.newarray .int, 2) := by decide +kernel
theorem dX2_init_51 : decode cX2_init 51 = .ok (.putfield 27, 3) := by decide +kernel
theorem dX2_init_54 : decode cX2_init 54 = .ok (.aload_n 0, 1) := by decide +kernel
theorem dX2_init_55 : decode cX2_init 55 = .ok (.sipush 300, 3) := by decide +kernel
theorem dX2_init_58 : decode cX2_init 58 = .ok (.newarray .int, 2) := by decide +kernel
theorem dX2_init_60 : decode cX2_init 60 = .ok (.putfield 30, 3) := by decide +kernel
theorem dX2_init_63 : decode cX2_init 63 = .ok (.aload_n 0, 1) := by decide +kernel
theorem dX2_init_64 : decode cX2_init 64 = .ok (.sipush 160, 3) := by decide +kernel
theorem dX2_init_67 : decode cX2_init 67 = .ok (.newarray .int, 2) := by decide +kernel
theorem dX2_init_69 : decode cX2_init 69 = .ok (.putfield 33, 3) := by decide +kernel
theorem dX2_init_72 : decode cX2_init 72 = .ok (.aload_n 0, 1) := by decide +kernel
theorem dX2_init_73 : decode cX2_init 73 = .ok (.sipush 160, 3) := by decide +kernel
theorem dX2_init_76 : decode cX2_init 76 = .ok (.newarray .int, 2) := by decide +kernel
theorem dX2_init_78 : decode cX2_init 78 = .ok (.putfield 36, 3) := by decide +kernel
theorem dX2_init_81 : decode cX2_init 81 = .ok (.aload_n 0, 1) := by decide +kernel
theorem dX2_init_82 : decode cX2_init 82 = .ok (.bipush 40, 2) := by decide +kernel
theorem dX2_init_84 : decode cX2_init 84 = .ok (.newarray .int, 2) := by decide +kernel
theorem dX2_init_86 : decode cX2_init 86 = .ok (.putfield 39, 3) := by decide +kernel
theorem dX2_init_89 : decode cX2_init 89 = .ok (.aload_n 0, 1) := by decide +kernel
theorem dX2_init_90 : decode cX2_init 90 = .ok (.bipush 40, 2) := by decide +kernel
theorem dX2_init_92 : decode cX2_init 92 = .ok (.newarray .int, 2) := by decide +kernel
theorem dX2_init_94 : decode cX2_init 94 = .ok (.putfield 42, 3) := by decide +kernel
theorem dX2_init_97 : decode cX2_init 97 = .ok (.aload_n 0, 1) := by decide +kernel
theorem dX2_init_98 : decode cX2_init 98 = .ok (.bipush 40, 2) := by decide +kernel
theorem dX2_init_100 : decode cX2_init 100 = .ok (.newarray .int, 2) := by decide +kernel
theorem dX2_init_102 : decode cX2_init 102 = .ok (.putfield 45, 3) := by decide +kernel
theorem dX2_init_105 : decode cX2_init 105 = .ok (.aload_n 0, 1) := by decide +kernel
theorem dX2_init_106 : decode cX2_init 106 = .ok (.getfield 21, 3) := by decide +kernel
theorem dX2_init_109 : decode cX2_init 109 = .ok (.iconst (-1), 1) := by decide +kernel
theorem dX2_init_110 : decode cX2_init 110 = .ok (.invokestatic 48, 3) := by decide +kernel
theorem dX2_init_113 : decode cX2_init 113 = .ok (.aload_n 0, 1) := by decide +kernel
theorem dX2_init_114 : decode cX2_init 114 = .ok (.getfield 33, 3) := by decide +kernel
theorem dX2_init_117 : decode cX2_init 117 = .ok (.iconst (-1), 1) := by decide +kernel
theorem dX2_init_118 : decode cX2_init 118 = .ok (.invokestatic 48, 3) := by decide +kernel
theorem dX2_init_121 : decode cX2_init 121 = .ok (.aload_n 0, 1) := by decide +kernel
theorem dX2_init_122 : decode cX2_init 122 = .ok (.getfield 36, 3) := by decide +kernel
theorem dX2_init_125 : decode cX2_init 125 = .ok (.iconst (-1), 1) := by decide +kernel
theorem dX2_init_126 : decode cX2_init 126 = .ok (.invokestatic 48, 3) := by decide +kernel
theorem dX2_init_129 : decode cX2_init 129 = .ok (.return_, 1) := by decide +kernel
theorem dX2_hasAct_0 : decode cX2_hasAct 0 = .ok (.iload_n 1, 1) := by decide +kernel
theorem dX2_hasAct_1 : decode cX2_hasAct 1 = .ok (.ifCond .lt 15, 3) := by decide +kernel
theorem dX2_hasAct_4 : decode cX2_hasAct 4 = .ok (.iload_n 1, 1) := by decide +kernel
theorem dX2_hasAct_5 : decode cX2_hasAct 5 = .ok (.aload_n 0, 1) := by decide +kernel
theorem dX2_hasAct_6 : decode cX2_hasAct 6 = .ok (.getfield 54, 3) := by decide +kernel
theorem dX2_hasAct_9 : decode cX2_hasAct 9 = .ok (.if_icmp .ge 7, 3) := by decide +kernel
theorem dX2_hasAct_12 : decode cX2_hasAct 12 = .ok (.iconst 1, 1) := by decide +kernel
theorem dX2_hasAct_13 : decode cX2_hasAct 13 = .ok (.goto 4, 3) := by decide +kernel
theorem dX2_hasAct_16 : decode cX2_hasAct 16 = .ok (.iconst 0, 1) := by decide +kernel
theorem dX2_hasAct_17 : decode cX2_hasAct 17 = .ok (.ireturn, 1) := by decide +kernel
theorem dX2_hasPort_0 : decode cX2_hasPort 0 = .ok (.aload_n 0, 1) := by decide +kernel
theorem dX2_hasPort_1 : decode cX2_hasPort 1 = .ok (.iload_n 1, 1) := by decide +kernel
theorem dX2_hasPort_2 : decode cX2_hasPort 2 = .ok (.invokevirtual 58, 3) := by decide +kernel
theorem dX2_hasPort_5 : decode cX2_hasPort 5 = .ok (.ifCond .eq 21, 3) := by decide +kernel
theorem dX2_hasPort_8 : decode cX2_hasPort 8 = .ok (.iload_n 2, 1) := by decide +kernel
theorem dX2_hasPort_9 : decode cX2_hasPort 9 = .ok (.ifCond .lt 17, 3) := by decide +kernel
theorem dX2_hasPort_12 : decode cX2_hasPort 12 = .ok (.iload_n 2, 1) := by decide +kernel
theorem dX2_hasPort_13 : decode cX2_hasPort 13 = .ok (.aload_n 0, 1) := by decide +kernel
theorem dX2_hasPort_14 : decode cX2_hasPort 14 = .ok (.getfield 18, 3) := by decide +kernel
theorem dX2_hasPort_17 : decode cX2_hasPort 17 = .ok (.iload_n 1, 1) := by decide +kernel
theorem dX2_hasPort_18 : decode cX2_hasPort 18 = .ok (.iaload, 1) := by decide +kernel
theorem dX2_hasPort_19 : decode cX2_hasPort 19 = .ok (.if_icmp .ge 7, 3) := by decide +kernel
theorem dX2_hasPort_22 : decode cX2_hasPort 22 = .ok (.iconst 1, 1) := by decide +kernel
theorem dX2_hasPort_23 : decode cX2_hasPort 23 = .ok (.goto 4, 3) := by decide +kernel
theorem dX2_hasPort_26 : decode cX2_hasPort 26 = .ok (.iconst 0, 1) := by decide +kernel
theorem dX2_hasPort_27 : decode cX2_hasPort 27 = .ok (.ireturn, 1) := by decide +kernel
theorem dX2_addAct_0 : decode cX2_addAct 0 = .ok (.iload_n 1, 1) := by decide +kernel
theorem dX2_addAct_1 : decode cX2_addAct 1 = .ok (.invokestatic 62, 3) := by decide +kernel
theorem dX2_addAct_4 : decode cX2_addAct 4 = .ok (.ifCond .eq 23, 3) := by decide +kernel
theorem dX2_addAct_7 : decode cX2_addAct 7 = .ok (.iload_n 1, 1) := by decide +kernel
theorem dX2_addAct_8 : decode cX2_addAct 8 = .ok (.iload_n 2, 1) := by decide +kernel
theorem dX2_addAct_9 : decode cX2_addAct 9 = .ok (.invokestatic 67, 3) := by decide +kernel
theorem dX2_addAct_12 : decode cX2_addAct 12 = .ok (.ifCond .eq 15, 3) := by decide +kernel
theorem dX2_addAct_15 : decode cX2_addAct 15 = .ok (.iload_n 1, 1) := by decide +kernel
theorem dX2_addAct_16 : decode cX2_addAct 16 = .ok (.iload_n 3, 1) := by decide +kernel
theorem dX2_addAct_17 : decode cX2_addAct 17 = .ok (.invokestatic 71, 3) := by decide +kernel
theorem dX2_addAct_20 : decode cX2_addAct 20 = .ok (.ifCond .eq 7, 3) := by decide +kernel
theorem dX2_addAct_23 : decode cX2_addAct 23 = .ok (.iconst 1, 1) := by decide +kernel
theorem dX2_addAct_24 : decode cX2_addAct 24 = .ok (.goto 4, 3) := by decide +kernel
theorem dX2_addAct_27 : decode cX2_addAct 27 = .ok (.iconst 0, 1) := by decide +kernel
theorem dX2_addAct_28 : decode cX2_addAct 28 = .ok (.istore 4, 2) := by decide +kernel
theorem dX2_addAct_30 : decode cX2_addAct 30 = .ok (.iload 4, 2) := by decide +kernel
theorem dX2_addAct_32 : decode cX2_addAct 32 = .ok (.ifCond .eq 12, 3) := by decide +kernel
theorem dX2_addAct_35 : decode cX2_addAct 35 = .ok (.aload_n 0, 1) := by decide +kernel
theorem dX2_addAct_36 : decode cX2_addAct 36 = .ok (.getfield 54, 3) := by decide +kernel
theorem dX2_addAct_39 : decode cX2_addAct 39 = .ok (.bipush 80, 2) := by decide +kernel
theorem dX2_addAct_41 : decode cX2_addAct 41 = .ok (.if_icmp .lt 5, 3) := by decide +kernel
theorem dX2_addAct_44 : decode cX2_addAct 44 = .ok (.iconst (-1), 1) := by decide +kernel
theorem dX2_addAct_45 : decode cX2_addAct 45 = .ok (.ireturn, 1) := by decide +kernel
theorem dX2_addAct_46 : decode cX2_addAct 46 = .ok (.aload_n 0, 1) := by decide +kernel
theorem dX2_addAct_47 : decode cX2_addAct 47 = .ok (.getfield 54, 3) := by decide +kernel
theorem dX2_addAct_50 : decode cX2_addAct 50 = .ok (.istore 5, 2) := by decide +kernel
theorem dX2_addAct_52 : decode cX2_addAct 52 = .ok (.aload_n 0, 1) := by decide +kernel
theorem dX2_addAct_53 : decode cX2_addAct 53 = .ok (.dup, 1) := by decide +kernel
theorem dX2_addAct_54 : decode cX2_addAct 54 = .ok (.getfield 54, 3) := by decide +kernel
theorem dX2_addAct_57 : decode cX2_addAct 57 = .ok (.iconst 1, 1) := by decide +kernel
theorem dX2_addAct_58 : decode cX2_addAct 58 = .ok (.iadd, 1) := by decide +kernel
theorem dX2_addAct_59 : decode cX2_addAct 59 = .ok (.putfield 54, 3) := by decide +kernel
theorem dX2_addAct_62 : decode cX2_addAct 62 = .ok (.aload_n 0, 1) := by decide +kernel
theorem dX2_addAct_63 : decode cX2_addAct 63 = .ok (.getfield 9, 3) := by decide +kernel
theorem dX2_addAct_66 : decode cX2_addAct 66 = .ok (.iload 5, 2) := by decide +kernel
theorem dX2_addAct_68 : decode cX2_addAct 68 = .ok (.iload_n 1, 1) := by decide +kernel
theorem dX2_addAct_69 : decode cX2_addAct 69 = .ok (.iastore, 1) := by decide +kernel
theorem dX2_addAct_70 : decode cX2_addAct 70 = .ok (.aload_n 0, 1) := by decide +kernel
theorem dX2_addAct_71 : decode cX2_addAct 71 = .ok (.getfield 15, 3) := by decide +kernel
theorem dX2_addAct_74 : decode cX2_addAct 74 = .ok (.iload 5, 2) := by decide +kernel
theorem dX2_addAct_76 : decode cX2_addAct 76 = .ok (.iload_n 2, 1) := by decide +kernel
theorem dX2_addAct_77 : decode cX2_addAct 77 = .ok (.iastore, 1) := by decide +kernel
theorem dX2_addAct_78 : decode cX2_addAct 78 = .ok (.aload_n 0, 1) := by decide +kernel
theorem dX2_addAct_79 : decode cX2_addAct 79 = .ok (.getfield 18, 3) := by decide +kernel
theorem dX2_addAct_82 : decode cX2_addAct 82 = .ok (.iload 5, 2) := by decide +kernel
theorem dX2_addAct_84 : decode cX2_addAct 84 = .ok (.iload_n 1, 1) := by decide +kernel
theorem dX2_addAct_85 : decode cX2_addAct 85 = .ok (.iload_n 3, 1) := by decide +kernel
theorem dX2_addAct_86 : decode cX2_addAct 86 = .ok (.invokestatic 74, 3) := by decide +kernel
theorem dX2_addAct_89 : decode cX2_addAct 89 = .ok (.iastore, 1) := by decide +kernel
theorem dX2_addAct_90 : decode cX2_addAct 90 = .ok (.iload_n 1, 1) := by decide +kernel
theorem dX2_addAct_91 : decode cX2_addAct 91 = .ok (.bipush 15, 2) := by decide +kernel
theorem dX2_addAct_93 : decode cX2_addAct 93 = .ok (.if_icmp .ne 21, 3) := by decide +kernel
theorem dX2_addAct_96 : decode cX2_addAct 96 = .ok (.aload_n 0, 1) := by decide +kernel
theorem dX2_addAct_97 : decode cX2_addAct 97 = .ok (.getfield 21, 3) := by decide +kernel
theorem dX2_addAct_100 : decode cX2_addAct 100 = .ok (.iload_n 2, 1) := by decide +kernel
theorem dX2_addAct_101 : decode cX2_addAct 101 = .ok (.iaload, 1) := by decide +kernel
theorem dX2_addAct_102 : decode cX2_addAct 102 = .ok (.iconst (-1), 1) := by decide +kernel
theorem dX2_addAct_103 : decode cX2_addAct 103 = .ok (.if_icmp .ne 11, 3) := by decide +kernel
theorem dX2_addAct_106 : decode cX2_addAct 106 = .ok (.aload_n 0, 1) := by decide +kernel
theorem dX2_addAct_107 : decode cX2_addAct 107 = .ok (.getfield 21, 3) := by decide +kernel
theorem dX2_addAct_110 : decode cX2_addAct 110 = .ok (.iload_n 2, 1) := by decide +kernel
theorem dX2_addAct_111 : decode cX2_addAct 111 = .ok (.iload 5, 2) := by decide +kernel
theorem dX2_addAct_113 : decode cX2_addAct 113 = .ok (.iastore, 1) := by decide +kernel
theorem dX2_addAct_114 : decode cX2_addAct 114 = .ok (.iload 5, 2) := by decide +kernel
theorem dX2_addAct_116 : decode cX2_addAct 116 = .ok (.ireturn, 1) := by decide +kernel
theorem dX2_addWay_0 : decode cX2_addWay 0 = .ok (.aload_n 0, 1) := by decide +kernel
theorem dX2_addWay_1 : decode cX2_addWay 1 = .ok (.iload_n 1, 1) := by decide +kernel
theorem dX2_addWay_2 : decode cX2_addWay 2 = .ok (.invokevirtual 58, 3) := by decide +kernel
theorem dX2_addWay_5 : decode cX2_addWay 5 = .ok (.ifCond .eq 26, 3) := by decide +kernel
theorem dX2_addWay_8 : decode cX2_addWay 8 = .ok (.aload_n 0, 1) := by decide +kernel
theorem dX2_addWay_9 : decode cX2_addWay 9 = .ok (.getfield 9, 3) := by decide +kernel
theorem dX2_addWay_12 : decode cX2_addWay 12 = .ok (.iload_n 1, 1) := by decide +kernel
theorem dX2_addWay_13 : decode cX2_addWay 13 = .ok (.iaload, 1) := by decide +kernel
theorem dX2_addWay_14 : decode cX2_addWay 14 = .ok (.iload_n 2, 1) := by decide +kernel
theorem dX2_addWay_15 : decode cX2_addWay 15 = .ok (.invokestatic 78, 3) := by decide +kernel
theorem dX2_addWay_18 : decode cX2_addWay 18 = .ok (.ifCond .eq 13, 3) := by decide +kernel
theorem dX2_addWay_21 : decode cX2_addWay 21 = .ok (.aload_n 0, 1) := by decide +kernel
theorem dX2_addWay_22 : decode cX2_addWay 22 = .ok (.iload_n 3, 1) := by decide +kernel
theorem dX2_addWay_23 : decode cX2_addWay 23 = .ok (.iload 4, 2) := by decide +kernel
theorem dX2_addWay_25 : decode cX2_addWay 25 = .ok (.invokevirtual 81, 3) := by decide +kernel
theorem dX2_addWay_28 : decode cX2_addWay 28 = .ok (.ifCond .ne 5, 3) := by decide +kernel
theorem dX2_addWay_31 : decode cX2_addWay 31 = .ok (.iconst (-1), 1) := by decide +kernel
theorem dX2_addWay_32 : decode cX2_addWay 32 = .ok (.ireturn, 1) := by decide +kernel
theorem dX2_addWay_33 : decode cX2_addWay 33 = .ok (.aload_n 0, 1) := by decide +kernel
theorem dX2_addWay_34 : decode cX2_addWay 34 = .ok (.getfield 84, 3) := by decide +kernel
theorem dX2_addWay_37 : decode cX2_addWay 37 = .ok (.sipush 300, 3) := by decide +kernel
theorem dX2_addWay_40 : decode cX2_addWay 40 = .ok (.if_icmp .lt 5, 3) := by decide +kernel
theorem dX2_addWay_43 : decode cX2_addWay 43 = .ok (.iconst (-1), 1) := by decide +kernel
theorem dX2_addWay_44 : decode cX2_addWay 44 = .ok (.ireturn, 1) := by decide +kernel
theorem dX2_addWay_45 : decode cX2_addWay 45 = .ok (.aload_n 0, 1) := by decide +kernel
theorem dX2_addWay_46 : decode cX2_addWay 46 = .ok (.getfield 84, 3) := by decide +kernel
theorem dX2_addWay_49 : decode cX2_addWay 49 = .ok (.istore 5, 2) := by decide +kernel
theorem dX2_addWay_51 : decode cX2_addWay 51 = .ok (.aload_n 0, 1) := by decide +kernel
theorem dX2_addWay_52 : decode cX2_addWay 52 = .ok (.dup, 1) := by decide +kernel
theorem dX2_addWay_53 : decode cX2_addWay 53 = .ok (.getfield 84, 3) := by decide +kernel
theorem dX2_addWay_56 : decode cX2_addWay 56 = .ok (.iconst 1, 1) := by decide +kernel
theorem dX2_addWay_57 : decode cX2_addWay 57 = .ok (.iadd, 1) := by decide +kernel
theorem dX2_addWay_58 : decode cX2_addWay 58 = .ok (.putfield 84, 3) := by decide +kernel
theorem dX2_addWay_61 : decode cX2_addWay 61 = .ok (.aload_n 0, 1) := by decide +kernel
theorem dX2_addWay_62 : decode cX2_addWay 62 = .ok (.getfield 24, 3) := by decide +kernel
theorem dX2_addWay_65 : decode cX2_addWay 65 = .ok (.iload 5, 2) := by decide +kernel
theorem dX2_addWay_67 : decode cX2_addWay 67 = .ok (.iload_n 3, 1) := by decide +kernel
theorem dX2_addWay_68 : decode cX2_addWay 68 = .ok (.iastore, 1) := by decide +kernel
theorem dX2_addWay_69 : decode cX2_addWay 69 = .ok (.aload_n 0, 1) := by decide +kernel
theorem dX2_addWay_70 : decode cX2_addWay 70 = .ok (.getfield 27, 3) := by decide +kernel
theorem dX2_addWay_73 : decode cX2_addWay 73 = .ok (.iload 5, 2) := by decide +kernel
theorem dX2_addWay_75 : decode cX2_addWay 75 = .ok (.iload 4, 2) := by decide +kernel
theorem dX2_addWay_77 : decode cX2_addWay 77 = .ok (.iastore, 1) := by decide +kernel
theorem dX2_addWay_78 : decode cX2_addWay 78 = .ok (.aload_n 0, 1) := by decide +kernel
theorem dX2_addWay_79 : decode cX2_addWay 79 = .ok (.getfield 30, 3) := by decide +kernel
theorem dX2_addWay_82 : decode cX2_addWay 82 = .ok (.iload 5, 2) := by decide +kernel
theorem dX2_addWay_84 : decode cX2_addWay 84 = .ok (.iconst (-1), 1) := by decide +kernel
theorem dX2_addWay_85 : decode cX2_addWay 85 = .ok (.iastore, 1) := by decide +kernel
theorem dX2_addWay_86 : decode cX2_addWay 86 = .ok (.iconst 2, 1) := by decide +kernel
theorem dX2_addWay_87 : decode cX2_addWay 87 = .ok (.iload_n 1, 1) := by decide +kernel
theorem dX2_addWay_88 : decode cX2_addWay 88 = .ok (.imul, 1) := by decide +kernel
theorem dX2_addWay_89 : decode cX2_addWay 89 = .ok (.iload_n 2, 1) := by decide +kernel
theorem dX2_addWay_90 : decode cX2_addWay 90 = .ok (.iadd, 1) := by decide +kernel
theorem dX2_addWay_91 : decode cX2_addWay 91 = .ok (.istore 6, 2) := by decide +kernel
theorem dX2_addWay_93 : decode cX2_addWay 93 = .ok (.aload_n 0, 1) := by decide +kernel
theorem dX2_addWay_94 : decode cX2_addWay 94 = .ok (.getfield 36, 3) := by decide +kernel
theorem dX2_addWay_97 : decode cX2_addWay 97 = .ok (.iload 6, 2) := by decide +kernel
theorem dX2_addWay_99 : decode cX2_addWay 99 = .ok (.iaload, 1) := by decide +kernel
theorem dX2_addWay_100 : decode cX2_addWay 100 = .ok (.istore 7, 2) := by decide +kernel
theorem dX2_addWay_102 : decode cX2_addWay 102 = .ok (.iload 7, 2) := by decide +kernel
theorem dX2_addWay_104 : decode cX2_addWay 104 = .ok (.iconst (-1), 1) := by decide +kernel
theorem dX2_addWay_105 : decode cX2_addWay 105 = .ok (.if_icmp .ne 15, 3) := by decide +kernel
theorem dX2_addWay_108 : decode cX2_addWay 108 = .ok (.aload_n 0, 1) := by decide +kernel
theorem dX2_addWay_109 : decode cX2_addWay 109 = .ok (.getfield 33, 3) := by decide +kernel
theorem dX2_addWay_112 : decode cX2_addWay 112 = .ok (.iload 6, 2) := by decide +kernel
theorem dX2_addWay_114 : decode cX2_addWay 114 = .ok (.iload 5, 2) := by decide +kernel
theorem dX2_addWay_116 : decode cX2_addWay 116 = .ok (.iastore, 1) := by decide +kernel
theorem dX2_addWay_117 : decode cX2_addWay 117 = .ok (.goto 12, 3) := by decide +kernel
theorem dX2_addWay_120 : decode cX2_addWay 120 = .ok (.aload_n 0, 1) := by decide +kernel
theorem dX2_addWay_121 : decode cX2_addWay 121 = .ok (.getfield 30, 3) := by decide +kernel
theorem dX2_addWay_124 : decode cX2_addWay 124 = .ok (.iload 7, 2) := by decide +kernel
theorem dX2_addWay_126 : decode cX2_addWay 126 = .ok (.iload 5, 2) := by decide +kernel
theorem dX2_addWay_128 : decode cX2_addWay 128 = .ok (.iastore, 1) := by decide +kernel
theorem dX2_addWay_129 : decode cX2_addWay 129 = .ok (.aload_n 0, 1) := by decide +kernel
theorem dX2_addWay_130 : decode cX2_addWay 130 = .ok (.getfield 36, 3) := by decide +kernel
theorem dX2_addWay_133 : decode cX2_addWay 133 = .ok (.iload 6, 2) := by decide +kernel
theorem dX2_addWay_135 : decode cX2_addWay 135 = .ok (.iload 5, 2) := by decide +kernel
theorem dX2_addWay_137 : decode cX2_addWay 137 = .ok (.iastore, 1) := by decide +kernel
theorem dX2_addWay_138 : decode cX2_addWay 138 = .ok (.iload 5, 2) := by decide +kernel
theorem dX2_addWay_140 : decode cX2_addWay 140 = .ok (.ireturn, 1) := by decide +kernel
theorem dX2_addToken_0 : decode cX2_addToken 0 = .ok (.aload_n 0, 1) := by decide +kernel
theorem dX2_addToken_1 : decode cX2_addToken 1 = .ok (.iload_n 1, 1) := by decide +kernel
theorem dX2_addToken_2 : decode cX2_addToken 2 = .ok (.iload_n 2, 1) := by decide +kernel
theorem dX2_addToken_3 : decode cX2_addToken 3 = .ok (.invokevirtual 81, 3) := by decide +kernel
theorem dX2_addToken_6 : decode cX2_addToken 6 = .ok (.ifCond .eq 12, 3) := by decide +kernel
theorem dX2_addToken_9 : decode cX2_addToken 9 = .ok (.aload_n 0, 1) := by decide +kernel
theorem dX2_addToken_10 : decode cX2_addToken 10 = .ok (.getfield 87, 3) := by decide +kernel
theorem dX2_addToken_13 : decode cX2_addToken 13 = .ok (.bipush 40, 2) := by decide +kernel
theorem dX2_addToken_15 : decode cX2_addToken 15 = .ok (.if_icmp .lt 5, 3) := by decide +kernel
theorem dX2_addToken_18 : decode cX2_addToken 18 = .ok (.iconst (-1), 1) := by decide +kernel
theorem dX2_addToken_19 : decode cX2_addToken 19 = .ok (.ireturn, 1) := by decide +kernel
theorem dX2_addToken_20 : decode cX2_addToken 20 = .ok (.aload_n 0, 1) := by decide +kernel
theorem dX2_addToken_21 : decode cX2_addToken 21 = .ok (.getfield 39, 3) := by decide +kernel
theorem dX2_addToken_24 : decode cX2_addToken 24 = .ok (.aload_n 0, 1) := by decide +kernel
theorem dX2_addToken_25 : decode cX2_addToken 25 = .ok (.getfield 87, 3) := by decide +kernel
theorem dX2_addToken_28 : decode cX2_addToken 28 = .ok (.iload_n 1, 1) := by decide +kernel
theorem dX2_addToken_29 : decode cX2_addToken 29 = .ok (.iastore, 1) := by decide +kernel
theorem dX2_addToken_30 : decode cX2_addToken 30 = .ok (.aload_n 0, 1) := by decide +kernel
theorem dX2_addToken_31 : decode cX2_addToken 31 = .ok (.getfield 42, 3) := by decide +kernel
theorem dX2_addToken_34 : decode cX2_addToken 34 = .ok (.aload_n 0, 1) := by decide +kernel
theorem dX2_addToken_35 : decode cX2_addToken 35 = .ok (.getfield 87, 3) := by decide +kernel
theorem dX2_addToken_38 : decode cX2_addToken 38 = .ok (.iload_n 2, 1) := by decide +kernel
theorem dX2_addToken_39 : decode cX2_addToken 39 = .ok (.iastore, 1) := by decide +kernel
theorem dX2_addToken_40 : decode cX2_addToken 40 = .ok (.aload_n 0, 1) := by decide +kernel
theorem dX2_addToken_41 : decode cX2_addToken 41 = .ok (.getfield 45, 3) := by decide +kernel
theorem dX2_addToken_44 : decode cX2_addToken 44 = .ok (.aload_n 0, 1) := by decide +kernel
theorem dX2_addToken_45 : decode cX2_addToken 45 = .ok (.getfield 87, 3) := by decide +kernel
theorem dX2_addToken_48 : decode cX2_addToken 48 = .ok (.iload_n 3, 1) := by decide +kernel
theorem dX2_addToken_49 : decode cX2_addToken 49 = .ok (.iastore, 1) := by decide +kernel
theorem dX2_addToken_50 : decode cX2_addToken 50 = .ok (.aload_n 0, 1) := by decide +kernel
theorem dX2_addToken_51 : decode cX2_addToken 51 = .ok (.dup, 1) := by decide +kernel
theorem dX2_addToken_52 : decode cX2_addToken 52 = .ok (.getfield 87, 3) := by decide +kernel
theorem dX2_addToken_55 : decode cX2_addToken 55 = .ok (.iconst 1, 1) := by decide +kernel
theorem dX2_addToken_56 : decode cX2_addToken 56 = .ok (.iadd, 1) := by decide +kernel
theorem dX2_addToken_57 : decode cX2_addToken 57 = .ok (.putfield 87, 3) := by decide +kernel
theorem dX2_addToken_60 : decode cX2_addToken 60 = .ok (.aload_n 0, 1) := by decide +kernel
theorem dX2_addToken_61 : decode cX2_addToken 61 = .ok (.getfield 87, 3) := by decide +kernel
theorem dX2_addToken_64 : decode cX2_addToken 64 = .ok (.ireturn, 1) := by decide +kernel
theorem dX2_dropTokens_0 : decode cX2_dropTokens 0 = .ok (.aload_n 0, 1) := by decide +kernel
theorem dX2_dropTokens_1 : decode cX2_dropTokens 1 = .ok (.iconst 0, 1) := by decide +kernel
theorem dX2_dropTokens_2 : decode cX2_dropTokens 2 = .ok (.putfield 87, 3) := by decide +kernel
theorem dX2_dropTokens_5 : decode cX2_dropTokens 5 = .ok (.return_, 1) := by decide +kernel
theorem dX2_dropWays_0 : decode cX2_dropWays 0 = .ok (.aload_n 0, 1) := by decide +kernel
theorem dX2_dropWays_1 : decode cX2_dropWays 1 = .ok (.iconst 0, 1) := by decide +kernel
theorem dX2_dropWays_2 : decode cX2_dropWays 2 = .ok (.putfield 84, 3) := by decide +kernel
theorem dX2_dropWays_5 : decode cX2_dropWays 5 = .ok (.aload_n 0, 1) := by decide +kernel
theorem dX2_dropWays_6 : decode cX2_dropWays 6 = .ok (.getfield 33, 3) := by decide +kernel
theorem dX2_dropWays_9 : decode cX2_dropWays 9 = .ok (.iconst (-1), 1) := by decide +kernel
theorem dX2_dropWays_10 : decode cX2_dropWays 10 = .ok (.invokestatic 48, 3) := by decide +kernel
theorem dX2_dropWays_13 : decode cX2_dropWays 13 = .ok (.aload_n 0, 1) := by decide +kernel
theorem dX2_dropWays_14 : decode cX2_dropWays 14 = .ok (.getfield 36, 3) := by decide +kernel
theorem dX2_dropWays_17 : decode cX2_dropWays 17 = .ok (.iconst (-1), 1) := by decide +kernel
theorem dX2_dropWays_18 : decode cX2_dropWays 18 = .ok (.invokestatic 48, 3) := by decide +kernel
theorem dX2_dropWays_21 : decode cX2_dropWays 21 = .ok (.return_, 1) := by decide +kernel
theorem dX2_dropActs_0 : decode cX2_dropActs 0 = .ok (.aload_n 0, 1) := by decide +kernel
theorem dX2_dropActs_1 : decode cX2_dropActs 1 = .ok (.iconst 0, 1) := by decide +kernel
theorem dX2_dropActs_2 : decode cX2_dropActs 2 = .ok (.putfield 54, 3) := by decide +kernel
theorem dX2_dropActs_5 : decode cX2_dropActs 5 = .ok (.aload_n 0, 1) := by decide +kernel
theorem dX2_dropActs_6 : decode cX2_dropActs 6 = .ok (.getfield 21, 3) := by decide +kernel
theorem dX2_dropActs_9 : decode cX2_dropActs 9 = .ok (.iconst (-1), 1) := by decide +kernel
theorem dX2_dropActs_10 : decode cX2_dropActs 10 = .ok (.invokestatic 48, 3) := by decide +kernel
theorem dX2_dropActs_13 : decode cX2_dropActs 13 = .ok (.return_, 1) := by decide +kernel
theorem dX2_firstWayOf_0 : decode cX2_firstWayOf 0 = .ok (.aload_n 0, 1) := by decide +kernel
theorem dX2_firstWayOf_1 : decode cX2_firstWayOf 1 = .ok (.getfield 33, 3) := by decide +kernel
theorem dX2_firstWayOf_4 : decode cX2_firstWayOf 4 = .ok (.iconst 2, 1) := by decide +kernel
theorem dX2_firstWayOf_5 : decode cX2_firstWayOf 5 = .ok (.iload_n 1, 1) := by decide +kernel
theorem dX2_firstWayOf_6 : decode cX2_firstWayOf 6 = .ok (.imul, 1) := by decide +kernel
theorem dX2_firstWayOf_7 : decode cX2_firstWayOf 7 = .ok (.iload_n 2, 1) := by decide +kernel
theorem dX2_firstWayOf_8 : decode cX2_firstWayOf 8 = .ok (.iadd, 1) := by decide +kernel
theorem dX2_firstWayOf_9 : decode cX2_firstWayOf 9 = .ok (.iaload, 1) := by decide +kernel
theorem dX2_firstWayOf_10 : decode cX2_firstWayOf 10 = .ok (.ireturn, 1) := by decide +kernel
theorem dX2_countWays_0 : decode cX2_countWays 0 = .ok (.iconst 0, 1) := by decide +kernel
theorem dX2_countWays_1 : decode cX2_countWays 1 = .ok (.istore_n 3, 1) := by decide +kernel
theorem dX2_countWays_2 : decode cX2_countWays 2 = .ok (.aload_n 0, 1) := by decide +kernel
theorem dX2_countWays_3 : decode cX2_countWays 3 = .ok (.iload_n 1, 1) := by decide +kernel
theorem dX2_countWays_4 : decode cX2_countWays 4 = .ok (.iload_n 2, 1) := by decide +kernel
theorem dX2_countWays_5 : decode cX2_countWays 5 = .ok (.invokevirtual 90, 3) := by decide +kernel
theorem dX2_countWays_8 : decode cX2_countWays 8 = .ok (.istore 4, 2) := by decide +kernel
theorem dX2_countWays_10 : decode cX2_countWays 10 = .ok (.iload 4, 2) := by decide +kernel
theorem dX2_countWays_12 : decode cX2_countWays 12 = .ok (.iconst (-1), 1) := by decide +kernel
theorem dX2_countWays_13 : decode cX2_countWays 13 = .ok (.if_icmp .eq 25, 3) := by decide +kernel
theorem dX2_countWays_16 : decode cX2_countWays 16 = .ok (.iload_n 3, 1) := by decide +kernel
theorem dX2_countWays_17 : decode cX2_countWays 17 = .ok (.sipush 300, 3) := by decide +kernel
theorem dX2_countWays_20 : decode cX2_countWays 20 = .ok (.if_icmp .ge 18, 3) := by decide +kernel
theorem dX2_countWays_23 : decode cX2_countWays 23 = .ok (.iinc 3 1, 3) := by decide +kernel
theorem dX2_countWays_26 : decode cX2_countWays 26 = .ok (.aload_n 0, 1) := by decide +kernel
theorem dX2_countWays_27 : decode cX2_countWays 27 = .ok (.getfield 30, 3) := by decide +kernel
theorem dX2_countWays_30 : decode cX2_countWays 30 = .ok (.iload 4, 2) := by decide +kernel
theorem dX2_countWays_32 : decode cX2_countWays 32 = .ok (.iaload, 1) := by decide +kernel
theorem dX2_countWays_33 : decode cX2_countWays 33 = .ok (.istore 4, 2) := by decide +kernel
theorem dX2_countWays_35 : decode cX2_countWays 35 = .ok (.goto (-25), 3) := by decide +kernel
theorem dX2_countWays_38 : decode cX2_countWays 38 = .ok (.iload_n 3, 1) := by decide +kernel
theorem dX2_countWays_39 : decode cX2_countWays 39 = .ok (.ireturn, 1) := by decide +kernel
theorem dX2_countTokens_0 : decode cX2_countTokens 0 = .ok (.iconst 0, 1) := by decide +kernel
theorem dX2_countTokens_1 : decode cX2_countTokens 1 = .ok (.istore_n 2, 1) := by decide +kernel
theorem dX2_countTokens_2 : decode cX2_countTokens 2 = .ok (.iconst 0, 1) := by decide +kernel
theorem dX2_countTokens_3 : decode cX2_countTokens 3 = .ok (.istore_n 3, 1) := by decide +kernel
theorem dX2_countTokens_4 : decode cX2_countTokens 4 = .ok (.iload_n 3, 1) := by decide +kernel
theorem dX2_countTokens_5 : decode cX2_countTokens 5 = .ok (.aload_n 0, 1) := by decide +kernel
theorem dX2_countTokens_6 : decode cX2_countTokens 6 = .ok (.getfield 87, 3) := by decide +kernel
theorem dX2_countTokens_9 : decode cX2_countTokens 9 = .ok (.if_icmp .ge 22, 3) := by decide +kernel
theorem dX2_countTokens_12 : decode cX2_countTokens 12 = .ok (.aload_n 0, 1) := by decide +kernel
theorem dX2_countTokens_13 : decode cX2_countTokens 13 = .ok (.getfield 39, 3) := by decide +kernel
theorem dX2_countTokens_16 : decode cX2_countTokens 16 = .ok (.iload_n 3, 1) := by decide +kernel
theorem dX2_countTokens_17 : decode cX2_countTokens 17 = .ok (.iaload, 1) := by decide +kernel
theorem dX2_countTokens_18 : decode cX2_countTokens 18 = .ok (.iload_n 1, 1) := by decide +kernel
theorem dX2_countTokens_19 : decode cX2_countTokens 19 = .ok (.if_icmp .ne 6, 3) := by decide +kernel
theorem dX2_countTokens_22 : decode cX2_countTokens 22 = .ok (.iinc 2 1, 3) := by decide +kernel
theorem dX2_countTokens_25 : decode cX2_countTokens 25 = .ok (.iinc 3 1, 3) := by decide +kernel
theorem dX2_countTokens_28 : decode cX2_countTokens 28 = .ok (.goto (-24), 3) := by decide +kernel
theorem dX2_countTokens_31 : decode cX2_countTokens 31 = .ok (.iload_n 2, 1) := by decide +kernel
theorem dX2_countTokens_32 : decode cX2_countTokens 32 = .ok (.ireturn, 1) := by decide +kernel
theorem dX2_parameterFor_0 : decode cX2_parameterFor 0 = .ok (.bipush 10, 2) := by decide +kernel
theorem dX2_parameterFor_2 : decode cX2_parameterFor 2 = .ok (.aload_n 0, 1) := by decide +kernel
theorem dX2_parameterFor_3 : decode cX2_parameterFor 3 = .ok (.getfield 15, 3) := by decide +kernel
theorem dX2_parameterFor_6 : decode cX2_parameterFor 6 = .ok (.iload_n 1, 1) := by decide +kernel
theorem dX2_parameterFor_7 : decode cX2_parameterFor 7 = .ok (.iaload, 1) := by decide +kernel
theorem dX2_parameterFor_8 : decode cX2_parameterFor 8 = .ok (.imul, 1) := by decide +kernel
theorem dX2_parameterFor_9 : decode cX2_parameterFor 9 = .ok (.iload_n 2, 1) := by decide +kernel
theorem dX2_parameterFor_10 : decode cX2_parameterFor 10 = .ok (.iadd, 1) := by decide +kernel
theorem dX2_parameterFor_11 : decode cX2_parameterFor 11 = .ok (.istore_n 3, 1) := by decide +kernel
theorem dX2_parameterFor_12 : decode cX2_parameterFor 12 = .ok (.iload_n 3, 1) := by decide +kernel
theorem dX2_parameterFor_13 : decode cX2_parameterFor 13 = .ok (.ifCond .lt 18, 3) := by decide +kernel
theorem dX2_parameterFor_16 : decode cX2_parameterFor 16 = .ok (.iload_n 3, 1) := by decide +kernel
theorem dX2_parameterFor_17 : decode cX2_parameterFor 17 = .ok (.bipush 100, 2) := by decide +kernel
theorem dX2_parameterFor_19 : decode cX2_parameterFor 19 = .ok (.if_icmp .ge 12, 3) := by decide +kernel
theorem dX2_parameterFor_22 : decode cX2_parameterFor 22 = .ok (.aload_n 0, 1) := by decide +kernel
theorem dX2_parameterFor_23 : decode cX2_parameterFor 23 = .ok (.getfield 21, 3) := by decide +kernel
theorem dX2_parameterFor_26 : decode cX2_parameterFor 26 = .ok (.iload_n 3, 1) := by decide +kernel
theorem dX2_parameterFor_27 : decode cX2_parameterFor 27 = .ok (.iaload, 1) := by decide +kernel
theorem dX2_parameterFor_28 : decode cX2_parameterFor 28 = .ok (.goto 4, 3) := by decide +kernel
theorem dX2_parameterFor_31 : decode cX2_parameterFor 31 = .ok (.iconst (-1), 1) := by decide +kernel
theorem dX2_parameterFor_32 : decode cX2_parameterFor 32 = .ok (.ireturn, 1) := by decide +kernel
theorem dX3_exists_0 : decode cX3_exists 0 = .ok (.iload_n 0, 1) := by decide +kernel
theorem dX3_exists_1 : decode cX3_exists 1 = .ok (.ifCond .lt 13, 3) := by decide +kernel
theorem dX3_exists_4 : decode cX3_exists 4 = .ok (.iload_n 0, 1) := by decide +kernel
theorem dX3_exists_5 : decode cX3_exists 5 = .ok (.bipush 21, 2) := by decide +kernel
theorem dX3_exists_7 : decode cX3_exists 7 = .ok (.if_icmp .gt 7, 3) := by decide +kernel
theorem dX3_exists_10 : decode cX3_exists 10 = .ok (.iconst 1, 1) := by decide +kernel
theorem dX3_exists_11 : decode cX3_exists 11 = .ok (.goto 4, 3) := by decide +kernel
theorem dX3_exists_14 : decode cX3_exists 14 = .ok (.iconst 0, 1) := by decide +kernel
theorem dX3_exists_15 : decode cX3_exists 15 = .ok (.ireturn, 1) := by decide +kernel
theorem dX3_allowsNumber_0 : decode cX3_allowsNumber 0 = .ok (.iload_n 0, 1) := by decide +kernel
theorem dX3_allowsNumber_1 : decode cX3_allowsNumber 1 = .ok (.tableswitch 99 11 21 #[59, 59, 59, 59, 75, 99, 99, 99, 99, 99, 59], 59) := by decide +kernel
theorem dX3_allowsNumber_60 : decode cX3_allowsNumber 60 = .ok (.iload_n 1, 1) := by decide +kernel
theorem dX3_allowsNumber_61 : decode cX3_allowsNumber 61 = .ok (.ifCond .lt 13, 3) := by decide +kernel
theorem dX3_allowsNumber_64 : decode cX3_allowsNumber 64 = .ok (.iload_n 1, 1) := by decide +kernel
theorem dX3_allowsNumber_65 : decode cX3_allowsNumber 65 = .ok (.bipush 9, 2) := by decide +kernel
theorem dX3_allowsNumber_67 : decode cX3_allowsNumber 67 = .ok (.if_icmp .gt 7, 3) := by decide +kernel
theorem dX3_allowsNumber_70 : decode cX3_allowsNumber 70 = .ok (.iconst 1, 1) := by decide +kernel
theorem dX3_allowsNumber_71 : decode cX3_allowsNumber 71 = .ok (.goto 4, 3) := by decide +kernel
theorem dX3_allowsNumber_74 : decode cX3_allowsNumber 74 = .ok (.iconst 0, 1) := by decide +kernel
theorem dX3_allowsNumber_75 : decode cX3_allowsNumber 75 = .ok (.ireturn, 1) := by decide +kernel
theorem dX3_allowsNumber_76 : decode cX3_allowsNumber 76 = .ok (.iload_n 1, 1) := by decide +kernel
theorem dX3_allowsNumber_77 : decode cX3_allowsNumber 77 = .ok (.ifCond .lt 21, 3) := by decide +kernel
theorem dX3_allowsNumber_80 : decode cX3_allowsNumber 80 = .ok (.iload_n 1, 1) := by decide +kernel
theorem dX3_allowsNumber_81 : decode cX3_allowsNumber 81 = .ok (.bipush 99, 2) := by decide +kernel
theorem dX3_allowsNumber_83 : decode cX3_allowsNumber 83 = .ok (.if_icmp .gt 15, 3) := by decide +kernel
theorem dX3_allowsNumber_86 : decode cX3_allowsNumber 86 = .ok (.iload_n 1, 1) := by decide +kernel
theorem dX3_allowsNumber_87 : decode cX3_allowsNumber 87 = .ok (.bipush 10, 2) := by decide +kernel
theorem dX3_allowsNumber_89 : decode cX3_allowsNumber 89 = .ok (.irem, 1) := by decide +kernel
theorem dX3_allowsNumber_90 : decode cX3_allowsNumber 90 = .ok (.iconst 3, 1) := by decide +kernel
theorem dX3_allowsNumber_91 : decode cX3_allowsNumber 91 = .ok (.if_icmp .ge 7, 3) := by decide +kernel
theorem dX3_allowsNumber_94 : decode cX3_allowsNumber 94 = .ok (.iconst 1, 1) := by decide +kernel
theorem dX3_allowsNumber_95 : decode cX3_allowsNumber 95 = .ok (.goto 4, 3) := by decide +kernel
theorem dX3_allowsNumber_98 : decode cX3_allowsNumber 98 = .ok (.iconst 0, 1) := by decide +kernel
theorem dX3_allowsNumber_99 : decode cX3_allowsNumber 99 = .ok (.ireturn, 1) := by decide +kernel
theorem dX3_allowsNumber_100 : decode cX3_allowsNumber 100 = .ok (.iconst 1, 1) := by decide +kernel
theorem dX3_allowsNumber_101 : decode cX3_allowsNumber 101 = .ok (.ireturn, 1) := by decide +kernel
theorem dX3_allowsPorts_0 : decode cX3_allowsPorts 0 = .ok (.iload_n 0, 1) := by decide +kernel
theorem dX3_allowsPorts_1 : decode cX3_allowsPorts 1 = .ok (.bipush 14, 2) := by decide +kernel
theorem dX3_allowsPorts_3 : decode cX3_allowsPorts 3 = .ok (.if_icmp .ne 13, 3) := by decide +kernel
theorem dX3_allowsPorts_6 : decode cX3_allowsPorts 6 = .ok (.iload_n 1, 1) := by decide +kernel
theorem dX3_allowsPorts_7 : decode cX3_allowsPorts 7 = .ok (.iconst 1, 1) := by decide +kernel
theorem dX3_allowsPorts_8 : decode cX3_allowsPorts 8 = .ok (.if_icmp .lt 12, 3) := by decide +kernel
theorem dX3_allowsPorts_11 : decode cX3_allowsPorts 11 = .ok (.iload_n 1, 1) := by decide +kernel
theorem dX3_allowsPorts_12 : decode cX3_allowsPorts 12 = .ok (.iconst 3, 1) := by decide +kernel
theorem dX3_allowsPorts_13 : decode cX3_allowsPorts 13 = .ok (.if_icmp .gt 7, 3) := by decide +kernel
theorem dX3_allowsPorts_16 : decode cX3_allowsPorts 16 = .ok (.iconst 1, 1) := by decide +kernel
theorem dX3_allowsPorts_17 : decode cX3_allowsPorts 17 = .ok (.goto 4, 3) := by decide +kernel
theorem dX3_allowsPorts_20 : decode cX3_allowsPorts 20 = .ok (.iconst 0, 1) := by decide +kernel
theorem dX3_allowsPorts_21 : decode cX3_allowsPorts 21 = .ok (.ireturn, 1) := by decide +kernel
theorem dX3_portsOf_0 : decode cX3_portsOf 0 = .ok (.iload_n 0, 1) := by decide +kernel
theorem dX3_portsOf_1 : decode cX3_portsOf 1 = .ok (.bipush 14, 2) := by decide +kernel
theorem dX3_portsOf_3 : decode cX3_portsOf 3 = .ok (.if_icmp .eq 10, 3) := by decide +kernel
theorem dX3_portsOf_6 : decode cX3_portsOf 6 = .ok (.iload_n 0, 1) := by decide +kernel
theorem dX3_portsOf_7 : decode cX3_portsOf 7 = .ok (.invokestatic 11, 3) := by decide +kernel
theorem dX3_portsOf_10 : decode cX3_portsOf 10 = .ok (.ifCond .ne 7, 3) := by decide +kernel
theorem dX3_portsOf_13 : decode cX3_portsOf 13 = .ok (.iload_n 1, 1) := by decide +kernel
theorem dX3_portsOf_14 : decode cX3_portsOf 14 = .ok (.goto 8, 3) := by decide +kernel
theorem dX3_portsOf_17 : decode cX3_portsOf 17 = .ok (.getstatic 15, 3) := by decide +kernel
theorem dX3_portsOf_20 : decode cX3_portsOf 20 = .ok (.iload_n 0, 1) := by decide +kernel
theorem dX3_portsOf_21 : decode cX3_portsOf 21 = .ok (.iaload, 1) := by decide +kernel
theorem dX3_portsOf_22 : decode cX3_portsOf 22 = .ok (.ireturn, 1) := by decide +kernel
theorem dX3_hasSide_0 : decode cX3_hasSide 0 = .ok (.iload_n 1, 1) := by decide +kernel
theorem dX3_hasSide_1 : decode cX3_hasSide 1 = .ok (.ifCond .eq 14, 3) := by decide +kernel
theorem dX3_hasSide_4 : decode cX3_hasSide 4 = .ok (.iload_n 1, 1) := by decide +kernel
theorem dX3_hasSide_5 : decode cX3_hasSide 5 = .ok (.iconst 1, 1) := by decide +kernel
theorem dX3_hasSide_6 : decode cX3_hasSide 6 = .ok (.if_icmp .ne 13, 3) := by decide +kernel
theorem dX3_hasSide_9 : decode cX3_hasSide 9 = .ok (.iload_n 0, 1) := by decide +kernel
theorem dX3_hasSide_10 : decode cX3_hasSide 10 = .ok (.bipush 10, 2) := by decide +kernel
theorem dX3_hasSide_12 : decode cX3_hasSide 12 = .ok (.if_icmp .ne 7, 3) := by decide +kernel
theorem dX3_hasSide_15 : decode cX3_hasSide 15 = .ok (.iconst 1, 1) := by decide +kernel
theorem dX3_hasSide_16 : decode cX3_hasSide 16 = .ok (.goto 4, 3) := by decide +kernel
theorem dX3_hasSide_19 : decode cX3_hasSide 19 = .ok (.iconst 0, 1) := by decide +kernel
theorem dX3_hasSide_20 : decode cX3_hasSide 20 = .ok (.ireturn, 1) := by decide +kernel
theorem dX4_init_0 : decode cX4_init 0 = .ok (.aload_n 0, 1) := by decide +kernel
theorem dX4_init_1 : decode cX4_init 1 = .ok (.invokespecial 3, 3) := by decide +kernel
theorem dX4_init_4 : decode cX4_init 4 = .ok (.aload_n 0, 1) := by decide +kernel
theorem dX4_init_5 : decode cX4_init 5 = .ok (.new 9, 3) := by decide +kernel
theorem dX4_init_8 : decode cX4_init 8 = .ok (.dup, 1) := by decide +kernel
theorem dX4_init_9 : decode cX4_init 9 = .ok (.invokespecial 11, 3) := by decide +kernel
theorem dX4_init_12 : decode cX4_init 12 = .ok (.putfield 12, 3) := by decide +kernel
theorem dX4_init_15 : decode cX4_init 15 = .ok (.aload_n 0, 1) := by decide +kernel
theorem dX4_init_16 : decode cX4_init 16 = .ok (.bipush 80, 2) := by decide +kernel
theorem dX4_init_18 : decode cX4_init 18 = .ok (.newarray .int, 2) := by decide +kernel
theorem dX4_init_20 : decode cX4_init 20 = .ok (.putfield 18, 3) := by decide +kernel
theorem dX4_init_23 : decode cX4_init 23 = .ok (.aload_n 0, 1) := by decide +kernel
theorem dX4_init_24 : decode cX4_init 24 = .ok (.bipush 10, 2) := by decide +kernel
theorem dX4_init_26 : decode cX4_init 26 = .ok (.newarray .long, 2) := by decide +kernel
theorem dX4_init_28 : decode cX4_init 28 = .ok (.putfield 22, 3) := by decide +kernel
theorem dX4_init_31 : decode cX4_init 31 = .ok (.aload_n 0, 1) := by decide +kernel
theorem dX4_init_32 : decode cX4_init 32 = .ok (.new 26, 3) := by decide +kernel
theorem dX4_init_35 : decode cX4_init 35 = .ok (.dup, 1) := by decide +kernel
theorem dX4_init_36 : decode cX4_init 36 = .ok (.invokespecial 28, 3) := by decide +kernel
theorem dX4_init_39 : decode cX4_init 39 = .ok (.putfield 29, 3) := by decide +kernel
theorem dX4_init_42 : decode cX4_init 42 = .ok (.aload_n 0, 1) := by decide +kernel
theorem dX4_init_43 : decode cX4_init 43 = .ok (.new 33, 3) := by decide +kernel
theorem dX4_init_46 : decode cX4_init 46 = .ok (.dup, 1) := by decide +kernel
theorem dX4_init_47 : decode cX4_init 47 = .ok (.invokespecial 35, 3) := by decide +kernel
theorem dX4_init_50 : decode cX4_init 50 = .ok (.putfield 36, 3) := by decide +kernel
theorem dX4_init_53 : decode cX4_init 53 = .ok (.aload_n 0, 1) := by decide +kernel
theorem dX4_init_54 : decode cX4_init 54 = .ok (.new 40, 3) := by decide +kernel
theorem dX4_init_57 : decode cX4_init 57 = .ok (.dup, 1) := by decide +kernel
theorem dX4_init_58 : decode cX4_init 58 = .ok (.invokespecial 42, 3) := by decide +kernel
theorem dX4_init_61 : decode cX4_init 61 = .ok (.putfield 43, 3) := by decide +kernel
theorem dX4_init_64 : decode cX4_init 64 = .ok (.aload_n 0, 1) := by decide +kernel
theorem dX4_init_65 : decode cX4_init 65 = .ok (.aload_n 1, 1) := by decide +kernel
theorem dX4_init_66 : decode cX4_init 66 = .ok (.putfield 47, 3) := by decide +kernel
theorem dX4_init_69 : decode cX4_init 69 = .ok (.return_, 1) := by decide +kernel
theorem dX4_goBySeed_0 : decode cX4_goBySeed 0 = .ok (.aload_n 0, 1) := by decide +kernel
theorem dX4_goBySeed_1 : decode cX4_goBySeed 1 = .ok (.invokevirtual 51, 3) := by decide +kernel
theorem dX4_goBySeed_4 : decode cX4_goBySeed 4 = .ok (.iload_n 1, 1) := by decide +kernel
theorem dX4_goBySeed_5 : decode cX4_goBySeed 5 = .ok (.istore_n 3, 1) := by decide +kernel
theorem dX4_goBySeed_6 : decode cX4_goBySeed 6 = .ok (.iconst 0, 1) := by decide +kernel
theorem dX4_goBySeed_7 : decode cX4_goBySeed 7 = .ok (.istore 4, 2) := by decide +kernel
theorem dX4_goBySeed_9 : decode cX4_goBySeed 9 = .ok (.iload 4, 2) := by decide +kernel
theorem dX4_goBySeed_11 : decode cX4_goBySeed 11 = .ok (.iload_n 2, 1) := by decide +kernel
theorem dX4_goBySeed_12 : decode cX4_goBySeed 12 = .ok (.if_icmp .gt 62, 3) := by decide +kernel
theorem dX4_goBySeed_15 : decode cX4_goBySeed 15 = .ok (.aload_n 0, 1) := by decide +kernel
theorem dX4_goBySeed_16 : decode cX4_goBySeed 16 = .ok (.iload_n 2, 1) := by decide +kernel
theorem dX4_goBySeed_17 : decode cX4_goBySeed 17 = .ok (.invokevirtual 54, 3) := by decide +kernel
theorem dX4_goBySeed_20 : decode cX4_goBySeed 20 = .ok (.ifCond .eq 54, 3) := by decide +kernel
theorem dX4_goBySeed_23 : decode cX4_goBySeed 23 = .ok (.ldc 58, 2) := by decide +kernel
theorem dX4_goBySeed_25 : decode cX4_goBySeed 25 = .ok (.iload_n 3, 1) := by decide +kernel
theorem dX4_goBySeed_26 : decode cX4_goBySeed 26 = .ok (.imul, 1) := by decide +kernel
theorem dX4_goBySeed_27 : decode cX4_goBySeed 27 = .ok (.sipush 12345, 3) := by decide +kernel
theorem dX4_goBySeed_30 : decode cX4_goBySeed 30 = .ok (.iadd, 1) := by decide +kernel
theorem dX4_goBySeed_31 : decode cX4_goBySeed 31 = .ok (.istore_n 3, 1) := by decide +kernel
theorem dX4_goBySeed_32 : decode cX4_goBySeed 32 = .ok (.aload_n 0, 1) := by decide +kernel
theorem dX4_goBySeed_33 : decode cX4_goBySeed 33 = .ok (.getfield 43, 3) := by decide +kernel
theorem dX4_goBySeed_36 : decode cX4_goBySeed 36 = .ok (.invokevirtual 59, 3) := by decide +kernel
theorem dX4_goBySeed_39 : decode cX4_goBySeed 39 = .ok (.istore 5, 2) := by decide +kernel
theorem dX4_goBySeed_41 : decode cX4_goBySeed 41 = .ok (.aload_n 0, 1) := by decide +kernel
theorem dX4_goBySeed_42 : decode cX4_goBySeed 42 = .ok (.aload_n 0, 1) := by decide +kernel
theorem dX4_goBySeed_43 : decode cX4_goBySeed 43 = .ok (.getfield 43, 3) := by decide +kernel
theorem dX4_goBySeed_46 : decode cX4_goBySeed 46 = .ok (.iload 5, 2) := by decide +kernel
theorem dX4_goBySeed_48 : decode cX4_goBySeed 48 = .ok (.ifCond .ne 7, 3) := by decide +kernel
theorem dX4_goBySeed_51 : decode cX4_goBySeed 51 = .ok (.iconst 0, 1) := by decide +kernel
theorem dX4_goBySeed_52 : decode cX4_goBySeed 52 = .ok (.goto 10, 3) := by decide +kernel
theorem dX4_goBySeed_55 : decode cX4_goBySeed 55 = .ok (.iload_n 3, 1) := by decide +kernel
theorem dX4_goBySeed_56 : decode cX4_goBySeed 56 = .ok (.bipush 16, 2) := by decide +kernel
theorem dX4_goBySeed_58 : decode cX4_goBySeed 58 = .ok (.iushr, 1) := by decide +kernel
theorem dX4_goBySeed_59 : decode cX4_goBySeed 59 = .ok (.iload 5, 2) := by decide +kernel
theorem dX4_goBySeed_61 : decode cX4_goBySeed 61 = .ok (.irem, 1) := by decide +kernel
theorem dX4_goBySeed_62 : decode cX4_goBySeed 62 = .ok (.invokevirtual 63, 3) := by decide +kernel
theorem dX4_goBySeed_65 : decode cX4_goBySeed 65 = .ok (.invokevirtual 67, 3) := by decide +kernel
theorem dX4_goBySeed_68 : decode cX4_goBySeed 68 = .ok (.iinc 4 1, 3) := by decide +kernel
theorem dX4_goBySeed_71 : decode cX4_goBySeed 71 = .ok (.goto (-62), 3) := by decide +kernel
theorem dX4_goBySeed_74 : decode cX4_goBySeed 74 = .ok (.aload_n 0, 1) := by decide +kernel
theorem dX4_goBySeed_75 : decode cX4_goBySeed 75 = .ok (.aload_n 0, 1) := by decide +kernel
theorem dX4_goBySeed_76 : decode cX4_goBySeed 76 = .ok (.getfield 71, 3) := by decide +kernel
theorem dX4_goBySeed_79 : decode cX4_goBySeed 79 = .ok (.ifCond .le 7, 3) := by decide +kernel
theorem dX4_goBySeed_82 : decode cX4_goBySeed 82 = .ok (.iconst 1, 1) := by decide +kernel
theorem dX4_goBySeed_83 : decode cX4_goBySeed 83 = .ok (.goto 4, 3) := by decide +kernel
theorem dX4_goBySeed_86 : decode cX4_goBySeed 86 = .ok (.iconst 0, 1) := by decide +kernel
theorem dX4_goBySeed_87 : decode cX4_goBySeed 87 = .ok (.putfield 75, 3) := by decide +kernel
theorem dX4_goBySeed_90 : decode cX4_goBySeed 90 = .ok (.aload_n 0, 1) := by decide +kernel
theorem dX4_goBySeed_91 : decode cX4_goBySeed 91 = .ok (.getfield 78, 3) := by decide +kernel
theorem dX4_goBySeed_94 : decode cX4_goBySeed 94 = .ok (.ireturn, 1) := by decide +kernel
theorem dX4_goByTicks_0 : decode cX4_goByTicks 0 = .ok (.aload_n 0, 1) := by decide +kernel
theorem dX4_goByTicks_1 : decode cX4_goByTicks 1 = .ok (.invokevirtual 51, 3) := by decide +kernel
theorem dX4_goByTicks_4 : decode cX4_goByTicks 4 = .ok (.iconst 0, 1) := by decide +kernel
theorem dX4_goByTicks_5 : decode cX4_goByTicks 5 = .ok (.istore_n 2, 1) := by decide +kernel
theorem dX4_goByTicks_6 : decode cX4_goByTicks 6 = .ok (.iload_n 2, 1) := by decide +kernel
theorem dX4_goByTicks_7 : decode cX4_goByTicks 7 = .ok (.iload_n 1, 1) := by decide +kernel
theorem dX4_goByTicks_8 : decode cX4_goByTicks 8 = .ok (.if_icmp .gt 22, 3) := by decide +kernel
theorem dX4_goByTicks_11 : decode cX4_goByTicks 11 = .ok (.aload_n 0, 1) := by decide +kernel
theorem dX4_goByTicks_12 : decode cX4_goByTicks 12 = .ok (.iload_n 1, 1) := by decide +kernel
theorem dX4_goByTicks_13 : decode cX4_goByTicks 13 = .ok (.invokevirtual 54, 3) := by decide +kernel
theorem dX4_goByTicks_16 : decode cX4_goByTicks 16 = .ok (.ifCond .eq 14, 3) := by decide +kernel
theorem dX4_goByTicks_19 : decode cX4_goByTicks 19 = .ok (.aload_n 0, 1) := by decide +kernel
theorem dX4_goByTicks_20 : decode cX4_goByTicks 20 = .ok (.iload_n 1, 1) := by decide +kernel
theorem dX4_goByTicks_21 : decode cX4_goByTicks 21 = .ok (.invokevirtual 81, 3) := by decide +kernel
theorem dX4_goByTicks_24 : decode cX4_goByTicks 24 = .ok (.iinc 2 1, 3) := by decide +kernel
theorem dX4_goByTicks_27 : decode cX4_goByTicks 27 = .ok (.goto (-21), 3) := by decide +kernel
theorem dX4_goByTicks_30 : decode cX4_goByTicks 30 = .ok (.aload_n 0, 1) := by decide +kernel
theorem dX4_goByTicks_31 : decode cX4_goByTicks 31 = .ok (.getfield 78, 3) := by decide +kernel
theorem dX4_goByTicks_34 : decode cX4_goByTicks 34 = .ok (.ireturn, 1) := by decide +kernel
theorem dX4_figure_0 : decode cX4_figure 0 = .ok (.iload_n 1, 1) := by decide +kernel
theorem dX4_figure_1 : decode cX4_figure 1 = .ok (.tableswitch 126 0 10 #[59, 64, 69, 74, 79, 87, 95, 100, 105, 113, 118], 59) := by decide +kernel
theorem dX4_figure_60 : decode cX4_figure 60 = .ok (.aload_n 0, 1) := by decide +kernel
theorem dX4_figure_61 : decode cX4_figure 61 = .ok (.getfield 78, 3) := by decide +kernel
theorem dX4_figure_64 : decode cX4_figure 64 = .ok (.ireturn, 1) := by decide +kernel
theorem dX4_figure_65 : decode cX4_figure 65 = .ok (.aload_n 0, 1) := by decide +kernel
theorem dX4_figure_66 : decode cX4_figure 66 = .ok (.getfield 71, 3) := by decide +kernel
theorem dX4_figure_69 : decode cX4_figure 69 = .ok (.ireturn, 1) := by decide +kernel
theorem dX4_figure_70 : decode cX4_figure 70 = .ok (.aload_n 0, 1) := by decide +kernel
theorem dX4_figure_71 : decode cX4_figure 71 = .ok (.getfield 84, 3) := by decide +kernel
theorem dX4_figure_74 : decode cX4_figure 74 = .ok (.ireturn, 1) := by decide +kernel
theorem dX4_figure_75 : decode cX4_figure 75 = .ok (.aload_n 0, 1) := by decide +kernel
theorem dX4_figure_76 : decode cX4_figure 76 = .ok (.getfield 75, 3) := by decide +kernel
theorem dX4_figure_79 : decode cX4_figure 79 = .ok (.ireturn, 1) := by decide +kernel
theorem dX4_figure_80 : decode cX4_figure 80 = .ok (.aload_n 0, 1) := by decide +kernel
theorem dX4_figure_81 : decode cX4_figure 81 = .ok (.getfield 36, 3) := by decide +kernel
theorem dX4_figure_84 : decode cX4_figure 84 = .ok (.getfield 87, 3) := by decide +kernel
theorem dX4_figure_87 : decode cX4_figure 87 = .ok (.ireturn, 1) := by decide +kernel
theorem dX4_figure_88 : decode cX4_figure 88 = .ok (.aload_n 0, 1) := by decide +kernel
theorem dX4_figure_89 : decode cX4_figure 89 = .ok (.getfield 12, 3) := by decide +kernel
theorem dX4_figure_92 : decode cX4_figure 92 = .ok (.getfield 90, 3) := by decide +kernel
theorem dX4_figure_95 : decode cX4_figure 95 = .ok (.ireturn, 1) := by decide +kernel
theorem dX4_figure_96 : decode cX4_figure 96 = .ok (.aload_n 0, 1) := by decide +kernel
theorem dX4_figure_97 : decode cX4_figure 97 = .ok (.getfield 93, 3) := by decide +kernel
theorem dX4_figure_100 : decode cX4_figure 100 = .ok (.ireturn, 1) := by decide +kernel
theorem dX4_figure_101 : decode cX4_figure 101 = .ok (.aload_n 0, 1) := by decide +kernel
theorem dX4_figure_102 : decode cX4_figure 102 = .ok (.getfield 96, 3) := by decide +kernel
theorem dX4_figure_105 : decode cX4_figure 105 = .ok (.ireturn, 1) := by decide +kernel
theorem dX4_figure_106 : decode cX4_figure 106 = .ok (.aload_n 0, 1) := by decide +kernel
theorem dX4_figure_107 : decode cX4_figure 107 = .ok (.getfield 29, 3) := by decide +kernel
theorem dX4_figure_110 : decode cX4_figure 110 = .ok (.getfield 99, 3) := by decide +kernel
theorem dX4_figure_113 : decode cX4_figure 113 = .ok (.ireturn, 1) := by decide +kernel
theorem dX4_figure_114 : decode cX4_figure 114 = .ok (.aload_n 0, 1) := by decide +kernel
theorem dX4_figure_115 : decode cX4_figure 115 = .ok (.getfield 102, 3) := by decide +kernel
theorem dX4_figure_118 : decode cX4_figure 118 = .ok (.ireturn, 1) := by decide +kernel
theorem dX4_figure_119 : decode cX4_figure 119 = .ok (.aload_n 0, 1) := by decide +kernel
theorem dX4_figure_120 : decode cX4_figure 120 = .ok (.getfield 43, 3) := by decide +kernel
theorem dX4_figure_123 : decode cX4_figure 123 = .ok (.invokevirtual 59, 3) := by decide +kernel
theorem dX4_figure_126 : decode cX4_figure 126 = .ok (.ireturn, 1) := by decide +kernel
theorem dX4_figure_127 : decode cX4_figure 127 = .ok (.iconst (-1), 1) := by decide +kernel
theorem dX4_figure_128 : decode cX4_figure 128 = .ok (.ireturn, 1) := by decide +kernel
theorem dX4_describe_0 : decode cX4_describe 0 = .ok (.lload_n 1, 1) := by decide +kernel
theorem dX4_describe_1 : decode cX4_describe 1 = .ok (.invokestatic 105, 3) := by decide +kernel
theorem dX4_describe_4 : decode cX4_describe 4 = .ok (.istore 4, 2) := by decide +kernel
theorem dX4_describe_6 : decode cX4_describe 6 = .ok (.iload_n 3, 1) := by decide +kernel
theorem dX4_describe_7 : decode cX4_describe 7 = .ok (.tableswitch 78 0 2 #[25, 28, 63], 25) := by decide +kernel
theorem dX4_describe_32 : decode cX4_describe 32 = .ok (.iload 4, 2) := by decide +kernel
theorem dX4_describe_34 : decode cX4_describe 34 = .ok (.ireturn, 1) := by decide +kernel
theorem dX4_describe_35 : decode cX4_describe 35 = .ok (.lload_n 1, 1) := by decide +kernel
theorem dX4_describe_36 : decode cX4_describe 36 = .ok (.lconst 0, 1) := by decide +kernel
theorem dX4_describe_37 : decode cX4_describe 37 = .ok (.lcmp, 1) := by decide +kernel
theorem dX4_describe_38 : decode cX4_describe 38 = .ok (.ifCond .ne 5, 3) := by decide +kernel
theorem dX4_describe_41 : decode cX4_describe 41 = .ok (.iconst (-1), 1) := by decide +kernel
theorem dX4_describe_42 : decode cX4_describe 42 = .ok (.ireturn, 1) := by decide +kernel
theorem dX4_describe_43 : decode cX4_describe 43 = .ok (.lload_n 1, 1) := by decide +kernel
theorem dX4_describe_44 : decode cX4_describe 44 = .ok (.invokestatic 111, 3) := by decide +kernel
theorem dX4_describe_47 : decode cX4_describe 47 = .ok (.istore 5, 2) := by decide +kernel
theorem dX4_describe_49 : decode cX4_describe 49 = .ok (.iload 4, 2) := by decide +kernel
theorem dX4_describe_51 : decode cX4_describe 51 = .ok (.iconst 2, 1) := by decide +kernel
theorem dX4_describe_52 : decode cX4_describe 52 = .ok (.if_icmp .ne 15, 3) := by decide +kernel
theorem dX4_describe_55 : decode cX4_describe 55 = .ok (.aload_n 0, 1) := by decide +kernel
theorem dX4_describe_56 : decode cX4_describe 56 = .ok (.getfield 12, 3) := by decide +kernel
theorem dX4_describe_59 : decode cX4_describe 59 = .ok (.iload 5, 2) := by decide +kernel
theorem dX4_describe_61 : decode cX4_describe 61 = .ok (.invokevirtual 114, 3) := by decide +kernel
theorem dX4_describe_64 : decode cX4_describe 64 = .ok (.goto 5, 3) := by decide +kernel
theorem dX4_describe_67 : decode cX4_describe 67 = .ok (.iload 5, 2) := by decide +kernel
theorem dX4_describe_69 : decode cX4_describe 69 = .ok (.ireturn, 1) := by decide +kernel
theorem dX4_describe_70 : decode cX4_describe 70 = .ok (.iload 4, 2) := by decide +kernel
theorem dX4_describe_72 : decode cX4_describe 72 = .ok (.iconst 3, 1) := by decide +kernel
theorem dX4_describe_73 : decode cX4_describe 73 = .ok (.if_icmp .ne 10, 3) := by decide +kernel
theorem dX4_describe_76 : decode cX4_describe 76 = .ok (.lload_n 1, 1) := by decide +kernel
theorem dX4_describe_77 : decode cX4_describe 77 = .ok (.invokestatic 117, 3) := by decide +kernel
theorem dX4_describe_80 : decode cX4_describe 80 = .ok (.goto 4, 3) := by decide +kernel
theorem dX4_describe_83 : decode cX4_describe 83 = .ok (.iconst (-1), 1) := by decide +kernel
theorem dX4_describe_84 : decode cX4_describe 84 = .ok (.ireturn, 1) := by decide +kernel
theorem dX4_describe_85 : decode cX4_describe 85 = .ok (.iconst (-1), 1) := by decide +kernel
theorem dX4_describe_86 : decode cX4_describe 86 = .ok (.ireturn, 1) := by decide +kernel
theorem dX4_copyFigures_0 : decode cX4_copyFigures 0 = .ok (.aload_n 1, 1) := by decide +kernel
theorem dX4_copyFigures_1 : decode cX4_copyFigures 1 = .ok (.iconst 0, 1) := by decide +kernel
theorem dX4_copyFigures_2 : decode cX4_copyFigures 2 = .ok (.aload_n 0, 1) := by decide +kernel
theorem dX4_copyFigures_3 : decode cX4_copyFigures 3 = .ok (.getfield 78, 3) := by decide +kernel
theorem dX4_copyFigures_6 : decode cX4_copyFigures 6 = .ok (.i2l, 1) := by decide +kernel
theorem dX4_copyFigures_7 : decode cX4_copyFigures 7 = .ok (.lastore, 1) := by decide +kernel
theorem dX4_copyFigures_8 : decode cX4_copyFigures 8 = .ok (.aload_n 1, 1) := by decide +kernel
theorem dX4_copyFigures_9 : decode cX4_copyFigures 9 = .ok (.iconst 1, 1) := by decide +kernel
theorem dX4_copyFigures_10 : decode cX4_copyFigures 10 = .ok (.aload_n 0, 1) := by decide +kernel
theorem dX4_copyFigures_11 : decode cX4_copyFigures 11 = .ok (.getfield 71, 3) := by decide +kernel
