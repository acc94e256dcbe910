theorem dX4_goSwitch_9 : decode cX4_goSwitch 9 = .ok (.aload_n 0, 1) := by decide +kernel
theorem dX4_goSwitch_10 : decode cX4_goSwitch 10 = .ok (.dup, 1) := by decide +kernel
theorem dX4_goSwitch_11 : decode cX4_goSwitch 11 = .ok (.getfield 93, 3) := by decide +kernel
theorem dX4_goSwitch_14 : decode cX4_goSwitch 14 = .ok (.iconst 1, 1) := by decide +kernel
theorem dX4_goSwitch_15 : decode cX4_goSwitch 15 = .ok (.iadd, 1) := by decide +kernel
theorem dX4_goSwitch_16 : decode cX4_goSwitch 16 = .ok (.putfield 93, 3) := by decide +kernel
theorem dX4_goSwitch_19 : decode cX4_goSwitch 19 = .ok (.goto 23, 3) := by decide +kernel
theorem dX4_goSwitch_22 : decode cX4_goSwitch 22 = .ok (.aload_n 0, 1) := by decide +kernel
theorem dX4_goSwitch_23 : decode cX4_goSwitch 23 = .ok (.iload_n 1, 1) := by decide +kernel
theorem dX4_goSwitch_24 : decode cX4_goSwitch 24 = .ok (.lload 5, 2) := by decide +kernel
theorem dX4_goSwitch_26 : decode cX4_goSwitch 26 = .ok (.invokestatic 111, 3) := by decide +kernel
theorem dX4_goSwitch_29 : decode cX4_goSwitch 29 = .ok (.ifCond .eq 7, 3) := by decide +kernel
theorem dX4_goSwitch_32 : decode cX4_goSwitch 32 = .ok (.iconst 0, 1) := by decide +kernel
theorem dX4_goSwitch_33 : decode cX4_goSwitch 33 = .ok (.goto 4, 3) := by decide +kernel
theorem dX4_goSwitch_36 : decode cX4_goSwitch 36 = .ok (.iconst 1, 1) := by decide +kernel
theorem dX4_goSwitch_37 : decode cX4_goSwitch 37 = .ok (.iload_n 2, 1) := by decide +kernel
theorem dX4_goSwitch_38 : decode cX4_goSwitch 38 = .ok (.lload_n 3, 1) := by decide +kernel
theorem dX4_goSwitch_39 : decode cX4_goSwitch 39 = .ok (.invokevirtual 223, 3) := by decide +kernel
theorem dX4_goSwitch_42 : decode cX4_goSwitch 42 = .ok (.return_, 1) := by decide +kernel
set_option maxRecDepth 20000 in
theorem ggX4_goTurn_X0_isTurnOf : GoodIn wsX4_goTurn wsX0_isTurnOf := goodIn_r _ [9, 10, 130, 131, 132, 133, 134, 135] (by decide +kernel) (by decide +kernel)
set_option maxRecDepth 20000 in
theorem gX4_goTurn_X0_isTurnOf : GoodIn wsX4_goTurn (wsV RX4 240 RX0 yX0_isTurnOf wsX0_isTurnOf) := goodIn_app (goodIn_of _ (by decide +kernel)) ggX4_goTurn_X0_isTurnOf
set_option maxRecDepth 20000 in
theorem ggX4_goTurn_X8_ofFault : GoodIn wsX4_goTurn wsX8_ofFault := goodIn_r _ [14, 15, 16] (by decide +kernel) (by decide +kernel)
set_option maxRecDepth 20000 in
theorem gX4_goTurn_X8_ofFault : GoodIn wsX4_goTurn (va_wsS RX4 244 yX8_ofFault wsX8_ofFault) := goodIn_app (goodIn_of _ (by decide +kernel)) ggX4_goTurn_X8_ofFault
set_option maxRecDepth 20000 in
theorem ggX4_goTurn_X4_give : GoodIn wsX4_goTurn wsX4_give := goodIn_r _ [21, 2, 22, 23, 24, 25, 26, 27, 28, 29, 30, 31, 32, 33, 34, 20, 35, 36, 37, 38, 39, 40, 41, 42, 43, 44, 45, 46, 47, 48, 49, 50, 51, 52, 53, 54, 55, 56, 57, 58, 59, 60, 61, 62, 63, 64, 65, 66, 67, 68, 69, 70, 71, 72, 73, 74, 75, 101, 102, 103, 104, 105, 106, 107, 108, 109, 110, 111, 112, 113, 114, 115, 116, 117, 118, 119, 120, 121, 122, 123, 124, 125, 126, 127, 128, 129, 136, 137, 138, 139, 140, 141, 142, 143, 144, 145, 146] (by decide +kernel) (by decide +kernel)
set_option maxRecDepth 20000 in
theorem gX4_goTurn_X4_give : GoodIn wsX4_goTurn (wsV RX4 223 RX4 yX4_give wsX4_give) := goodIn_app (goodIn_of _ (by decide +kernel)) ggX4_goTurn_X4_give
set_option maxRecDepth 20000 in
theorem ggX4_goTurn_X0_nextTurn : GoodIn wsX4_goTurn wsX0_nextTurn := goodIn_r _ [79, 10, 80, 81, 82, 83, 8, 84, 85, 86, 87, 88, 89, 90, 91, 92, 130, 131, 132, 133, 134, 135] (by decide +kernel) (by decide +kernel)
set_option maxRecDepth 20000 in
theorem gX4_goTurn_X0_nextTurn : GoodIn wsX4_goTurn (wsV RX4 249 RX0 yX0_nextTurn wsX0_nextTurn) := goodIn_app (goodIn_of _ (by decide +kernel)) ggX4_goTurn_X0_nextTurn
set_option maxRecDepth 20000 in
theorem ggX4_goTurn_X4_giveInside : GoodIn wsX4_goTurn wsX4_giveInside := goodIn_r _ [96, 22, 17, 18, 19, 20, 21, 2, 23, 24, 25, 26, 27, 28, 29, 30, 31, 32, 33, 34, 35, 36, 37, 38, 39, 40, 41, 42, 43, 44, 45, 46, 47, 48, 49, 50, 51, 52, 53, 54, 55, 56, 57, 58, 59, 60, 61, 62, 63, 64, 65, 66, 67, 68, 69, 70, 71, 72, 73, 74, 75, 101, 102, 103, 104, 105, 106, 107, 108, 109, 110, 111, 112, 113, 114, 115, 116, 117, 118, 119, 120, 121, 122, 123, 124, 125, 126, 127, 128, 129, 136, 137, 138, 139, 140, 141, 142, 143, 144, 145, 146] (by decide +kernel) (by decide +kernel)
set_option maxRecDepth 20000 in
theorem gX4_goTurn_X4_giveInside : GoodIn wsX4_goTurn (wsV RX4 192 RX4 yX4_giveInside wsX4_giveInside) := goodIn_app (goodIn_of _ (by decide +kernel)) ggX4_goTurn_X4_giveInside
set_option maxRecDepth 20000 in
theorem ggX4_goTurn_X0_outerOf : GoodIn wsX4_goTurn wsX0_outerOf := goodIn_r _ [100, 80, 130, 131, 132, 133, 134, 135] (by decide +kernel) (by decide +kernel)
set_option maxRecDepth 20000 in
theorem gX4_goTurn_X0_outerOf : GoodIn wsX4_goTurn (wsV RX4 252 RX0 yX0_outerOf wsX0_outerOf) := goodIn_app (goodIn_of _ (by decide +kernel)) ggX4_goTurn_X0_outerOf
theorem dX4_goTurn_0 : decode cX4_goTurn 0 = .ok (.aload_n 0, 1) := by decide +kernel
theorem dX4_goTurn_1 : decode cX4_goTurn 1 = .ok (.getfield 29, 3) := by decide +kernel
theorem dX4_goTurn_4 : decode cX4_goTurn 4 = .ok (.iload_n 2, 1) := by decide +kernel
theorem dX4_goTurn_5 : decode cX4_goTurn 5 = .ok (.aload_n 0, 1) := by decide +kernel
theorem dX4_goTurn_6 : decode cX4_goTurn 6 = .ok (.getfield 47, 3) := by decide +kernel
theorem dX4_goTurn_9 : decode cX4_goTurn 9 = .ok (.getfield 186, 3) := by decide +kernel
theorem dX4_goTurn_12 : decode cX4_goTurn 12 = .ok (.iload_n 1, 1) := by decide +kernel
theorem dX4_goTurn_13 : decode cX4_goTurn 13 = .ok (.iaload, 1) := by decide +kernel
theorem dX4_goTurn_14 : decode cX4_goTurn 14 = .ok (.invokevirtual 240, 3) := by decide +kernel
theorem dX4_goTurn_17 : decode cX4_goTurn 17 = .ok (.ifCond .ne 18, 3) := by decide +kernel
theorem dX4_goTurn_20 : decode cX4_goTurn 20 = .ok (.aload_n 0, 1) := by decide +kernel
theorem dX4_goTurn_21 : decode cX4_goTurn 21 = .ok (.iload_n 1, 1) := by decide +kernel
theorem dX4_goTurn_22 : decode cX4_goTurn 22 = .ok (.iconst 0, 1) := by decide +kernel
theorem dX4_goTurn_23 : decode cX4_goTurn 23 = .ok (.iload_n 2, 1) := by decide +kernel
theorem dX4_goTurn_24 : decode cX4_goTurn 24 = .ok (.iconst 5, 1) := by decide +kernel
theorem dX4_goTurn_25 : decode cX4_goTurn 25 = .ok (.iload_n 1, 1) := by decide +kernel
theorem dX4_goTurn_26 : decode cX4_goTurn 26 = .ok (.invokestatic 244, 3) := by decide +kernel
theorem dX4_goTurn_29 : decode cX4_goTurn 29 = .ok (.invokevirtual 223, 3) := by decide +kernel
theorem dX4_goTurn_32 : decode cX4_goTurn 32 = .ok (.goto 49, 3) := by decide +kernel
theorem dX4_goTurn_35 : decode cX4_goTurn 35 = .ok (.aload_n 0, 1) := by decide +kernel
theorem dX4_goTurn_36 : decode cX4_goTurn 36 = .ok (.getfield 47, 3) := by decide +kernel
theorem dX4_goTurn_39 : decode cX4_goTurn 39 = .ok (.getfield 179, 3) := by decide +kernel
theorem dX4_goTurn_42 : decode cX4_goTurn 42 = .ok (.iload_n 1, 1) := by decide +kernel
theorem dX4_goTurn_43 : decode cX4_goTurn 43 = .ok (.iaload, 1) := by decide +kernel
theorem dX4_goTurn_44 : decode cX4_goTurn 44 = .ok (.bipush 12, 2) := by decide +kernel
theorem dX4_goTurn_46 : decode cX4_goTurn 46 = .ok (.if_icmp .ne 20, 3) := by decide +kernel
theorem dX4_goTurn_49 : decode cX4_goTurn 49 = .ok (.aload_n 0, 1) := by decide +kernel
theorem dX4_goTurn_50 : decode cX4_goTurn 50 = .ok (.iload_n 1, 1) := by decide +kernel
theorem dX4_goTurn_51 : decode cX4_goTurn 51 = .ok (.aload_n 0, 1) := by decide +kernel
theorem dX4_goTurn_52 : decode cX4_goTurn 52 = .ok (.getfield 29, 3) := by decide +kernel
theorem dX4_goTurn_55 : decode cX4_goTurn 55 = .ok (.iload_n 2, 1) := by decide +kernel
theorem dX4_goTurn_56 : decode cX4_goTurn 56 = .ok (.invokevirtual 249, 3) := by decide +kernel
theorem dX4_goTurn_59 : decode cX4_goTurn 59 = .ok (.lload_n 3, 1) := by decide +kernel
theorem dX4_goTurn_60 : decode cX4_goTurn 60 = .ok (.invokevirtual 192, 3) := by decide +kernel
theorem dX4_goTurn_63 : decode cX4_goTurn 63 = .ok (.goto 18, 3) := by decide +kernel
theorem dX4_goTurn_66 : decode cX4_goTurn 66 = .ok (.aload_n 0, 1) := by decide +kernel
theorem dX4_goTurn_67 : decode cX4_goTurn 67 = .ok (.iload_n 1, 1) := by decide +kernel
theorem dX4_goTurn_68 : decode cX4_goTurn 68 = .ok (.iconst 0, 1) := by decide +kernel
theorem dX4_goTurn_69 : decode cX4_goTurn 69 = .ok (.aload_n 0, 1) := by decide +kernel
theorem dX4_goTurn_70 : decode cX4_goTurn 70 = .ok (.getfield 29, 3) := by decide +kernel
theorem dX4_goTurn_73 : decode cX4_goTurn 73 = .ok (.iload_n 2, 1) := by decide +kernel
theorem dX4_goTurn_74 : decode cX4_goTurn 74 = .ok (.invokevirtual 252, 3) := by decide +kernel
theorem dX4_goTurn_77 : decode cX4_goTurn 77 = .ok (.lload_n 3, 1) := by decide +kernel
theorem dX4_goTurn_78 : decode cX4_goTurn 78 = .ok (.invokevirtual 223, 3) := by decide +kernel
theorem dX4_goTurn_81 : decode cX4_goTurn 81 = .ok (.return_, 1) := by decide +kernel
set_option maxRecDepth 20000 in
theorem ggX4_goCall_X0_callBy : GoodIn wsX4_goCall wsX0_callBy := goodIn_r _ [10, 11, 12, 13, 9, 14, 15, 16, 17, 18, 19, 20, 21, 22, 23, 24, 108, 109, 110, 111, 112, 113] (by decide +kernel) (by decide +kernel)
set_option maxRecDepth 20000 in
theorem gX4_goCall_X0_callBy : GoodIn wsX4_goCall (wsV RX4 255 RX0 yX0_callBy wsX0_callBy) := goodIn_app (goodIn_of _ (by decide +kernel)) ggX4_goCall_X0_callBy
set_option maxRecDepth 20000 in
theorem ggX4_goCall_X2_parameterFor : GoodIn wsX4_goCall wsX2_parameterFor := goodIn_r _ [29, 30, 31, 93, 94, 95, 96, 97, 98, 99, 100, 101, 102, 103, 104, 105, 106, 107] (by decide +kernel) (by decide +kernel)
set_option maxRecDepth 20000 in
theorem gX4_goCall_X2_parameterFor : GoodIn wsX4_goCall (wsV RX4 261 RX2 yX2_parameterFor wsX2_parameterFor) := goodIn_app (goodIn_of _ (by decide +kernel)) ggX4_goCall_X2_parameterFor
set_option maxRecDepth 20000 in
theorem ggX4_goCall_X1_cameTo : GoodIn wsX4_goCall wsX1_cameTo := goodIn_r _ [36, 37, 114, 115, 116, 117, 118, 119, 120, 121] (by decide +kernel) (by decide +kernel)
set_option maxRecDepth 20000 in
theorem gX4_goCall_X1_cameTo : GoodIn wsX4_goCall (wsV RX4 175 RX1 yX1_cameTo wsX1_cameTo) := goodIn_app (goodIn_of _ (by decide +kernel)) ggX4_goCall_X1_cameTo
set_option maxRecDepth 20000 in
theorem ggX4_goCall_X4_arrive : GoodIn wsX4_goCall wsX4_arrive := goodIn_r _ [42, 5, 2, 3, 4, 43, 44, 45, 46, 35, 47, 48, 49, 50, 51, 52, 53, 54, 55, 56, 57, 58, 59, 60, 61, 62, 63, 64, 41, 65, 66, 67, 68, 69, 70, 37, 71, 72, 73, 74, 75, 76, 77, 78, 79, 80, 81, 82, 83, 84, 85, 86, 87, 88, 89, 90, 91, 92, 93, 94, 95, 96, 97, 98, 99, 100, 101, 102, 103, 104, 105, 106, 107, 114, 115, 116, 117, 118, 119, 120, 121, 122, 123, 124] (by decide +kernel) (by decide +kernel)
set_option maxRecDepth 20000 in
theorem gX4_goCall_X4_arrive : GoodIn wsX4_goCall (wsV RX4 160 RX4 yX4_arrive wsX4_arrive) := goodIn_app (goodIn_of _ (by decide +kernel)) ggX4_goCall_X4_arrive
theorem dX4_goCall_0 : decode cX4_goCall 0 = .ok (.aload_n 0, 1) := by decide +kernel
theorem dX4_goCall_1 : decode cX4_goCall 1 = .ok (.getfield 29, 3) := by decide +kernel
theorem dX4_goCall_4 : decode cX4_goCall 4 = .ok (.iload_n 3, 1) := by decide +kernel
theorem dX4_goCall_5 : decode cX4_goCall 5 = .ok (.iload_n 2, 1) := by decide +kernel
theorem dX4_goCall_6 : decode cX4_goCall 6 = .ok (.invokevirtual 255, 3) := by decide +kernel
theorem dX4_goCall_9 : decode cX4_goCall 9 = .ok (.istore 4, 2) := by decide +kernel
theorem dX4_goCall_11 : decode cX4_goCall 11 = .ok (.iload 4, 2) := by decide +kernel
theorem dX4_goCall_13 : decode cX4_goCall 13 = .ok (.iconst (-1), 1) := by decide +kernel
theorem dX4_goCall_14 : decode cX4_goCall 14 = .ok (.if_icmp .ne 9, 3) := by decide +kernel
theorem dX4_goCall_17 : decode cX4_goCall 17 = .ok (.aload_n 0, 1) := by decide +kernel
theorem dX4_goCall_18 : decode cX4_goCall 18 = .ok (.iconst 2, 1) := by decide +kernel
theorem dX4_goCall_19 : decode cX4_goCall 19 = .ok (.putfield 78, 3) := by decide +kernel
theorem dX4_goCall_22 : decode cX4_goCall 22 = .ok (.return_, 1) := by decide +kernel
theorem dX4_goCall_23 : decode cX4_goCall 23 = .ok (.iconst 0, 1) := by decide +kernel
theorem dX4_goCall_24 : decode cX4_goCall 24 = .ok (.istore 5, 2) := by decide +kernel
theorem dX4_goCall_26 : decode cX4_goCall 26 = .ok (.iload 5, 2) := by decide +kernel
theorem dX4_goCall_28 : decode cX4_goCall 28 = .ok (.aload_n 0, 1) := by decide +kernel
theorem dX4_goCall_29 : decode cX4_goCall 29 = .ok (.getfield 47, 3) := by decide +kernel
theorem dX4_goCall_32 : decode cX4_goCall 32 = .ok (.getfield 258, 3) := by decide +kernel
theorem dX4_goCall_35 : decode cX4_goCall 35 = .ok (.iload_n 2, 1) := by decide +kernel
theorem dX4_goCall_36 : decode cX4_goCall 36 = .ok (.iaload, 1) := by decide +kernel
theorem dX4_goCall_37 : decode cX4_goCall 37 = .ok (.if_icmp .ge 54, 3) := by decide +kernel
theorem dX4_goCall_40 : decode cX4_goCall 40 = .ok (.aload_n 0, 1) := by decide +kernel
theorem dX4_goCall_41 : decode cX4_goCall 41 = .ok (.getfield 78, 3) := by decide +kernel
theorem dX4_goCall_44 : decode cX4_goCall 44 = .ok (.iconst (-1), 1) := by decide +kernel
theorem dX4_goCall_45 : decode cX4_goCall 45 = .ok (.if_icmp .ne 46, 3) := by decide +kernel
theorem dX4_goCall_48 : decode cX4_goCall 48 = .ok (.aload_n 0, 1) := by decide +kernel
theorem dX4_goCall_49 : decode cX4_goCall 49 = .ok (.getfield 47, 3) := by decide +kernel
theorem dX4_goCall_52 : decode cX4_goCall 52 = .ok (.iload_n 2, 1) := by decide +kernel
theorem dX4_goCall_53 : decode cX4_goCall 53 = .ok (.iload 5, 2) := by decide +kernel
theorem dX4_goCall_55 : decode cX4_goCall 55 = .ok (.invokevirtual 261, 3) := by decide +kernel
theorem dX4_goCall_58 : decode cX4_goCall 58 = .ok (.istore 6, 2) := by decide +kernel
theorem dX4_goCall_60 : decode cX4_goCall 60 = .ok (.iload 6, 2) := by decide +kernel
theorem dX4_goCall_62 : decode cX4_goCall 62 = .ok (.iconst (-1), 1) := by decide +kernel
theorem dX4_goCall_63 : decode cX4_goCall 63 = .ok (.if_icmp .eq 22, 3) := by decide +kernel
theorem dX4_goCall_66 : decode cX4_goCall 66 = .ok (.aload_n 0, 1) := by decide +kernel
theorem dX4_goCall_67 : decode cX4_goCall 67 = .ok (.iload 6, 2) := by decide +kernel
theorem dX4_goCall_69 : decode cX4_goCall 69 = .ok (.iconst 0, 1) := by decide +kernel
theorem dX4_goCall_70 : decode cX4_goCall 70 = .ok (.iload 4, 2) := by decide +kernel
theorem dX4_goCall_72 : decode cX4_goCall 72 = .ok (.aload_n 0, 1) := by decide +kernel
theorem dX4_goCall_73 : decode cX4_goCall 73 = .ok (.getfield 36, 3) := by decide +kernel
theorem dX4_goCall_76 : decode cX4_goCall 76 = .ok (.iload_n 1, 1) := by decide +kernel
theorem dX4_goCall_77 : decode cX4_goCall 77 = .ok (.iload 5, 2) := by decide +kernel
theorem dX4_goCall_79 : decode cX4_goCall 79 = .ok (.invokevirtual 175, 3) := by decide +kernel
theorem dX4_goCall_82 : decode cX4_goCall 82 = .ok (.invokevirtual 160, 3) := by decide +kernel
theorem dX4_goCall_85 : decode cX4_goCall 85 = .ok (.iinc 5 1, 3) := by decide +kernel
theorem dX4_goCall_88 : decode cX4_goCall 88 = .ok (.goto (-62), 3) := by decide +kernel
theorem dX4_goCall_91 : decode cX4_goCall 91 = .ok (.return_, 1) := by decide +kernel
set_option maxRecDepth 20000 in
theorem ggX4_goReturn_X0_callerOf : GoodIn wsX4_goReturn wsX0_callerOf := goodIn_r _ [7, 8, 88, 89, 90, 91, 92, 93] (by decide +kernel) (by decide +kernel)
set_option maxRecDepth 20000 in
theorem gX4_goReturn_X0_callerOf : GoodIn wsX4_goReturn (wsV RX4 264 RX0 yX0_callerOf wsX0_callerOf) := goodIn_app (goodIn_of _ (by decide +kernel)) ggX4_goReturn_X0_callerOf
set_option maxRecDepth 20000 in
theorem ggX4_goReturn_X0_outerOf : GoodIn wsX4_goReturn wsX0_outerOf := goodIn_r _ [12, 13, 88, 89, 90, 91, 92, 93] (by decide +kernel) (by decide +kernel)
set_option maxRecDepth 20000 in
theorem gX4_goReturn_X0_outerOf : GoodIn wsX4_goReturn (wsV RX4 252 RX0 yX0_outerOf wsX0_outerOf) := goodIn_app (goodIn_of _ (by decide +kernel)) ggX4_goReturn_X0_outerOf
set_option maxRecDepth 20000 in
theorem ggX4_goReturn_X4_give : GoodIn wsX4_goReturn wsX4_give := goodIn_r _ [18, 19, 20, 21, 22, 23, 24, 25, 26, 27, 28, 29, 30, 31, 32, 17, 33, 34, 35, 36, 37, 38, 39, 40, 41, 42, 43, 44, 45, 46, 47, 48, 49, 50, 51, 52, 53, 54, 55, 56, 57, 58, 59, 60, 61, 62, 63, 64, 65, 66, 67, 68, 69, 70, 71, 72, 73, 74, 75, 76, 77, 78, 79, 80, 81, 82, 83, 84, 85, 86, 87, 94, 95, 96, 97, 98, 99, 100, 101, 102, 103, 104, 105, 106, 107, 108, 109, 110, 111, 112, 113, 114, 115, 116, 117, 118, 119] (by decide +kernel) (by decide +kernel)
set_option maxRecDepth 20000 in
theorem gX4_goReturn_X4_give : GoodIn wsX4_goReturn (wsV RX4 223 RX4 yX4_give wsX4_give) := goodIn_app (goodIn_of _ (by decide +kernel)) ggX4_goReturn_X4_give
theorem dX4_goReturn_0 : decode cX4_goReturn 0 = .ok (.aload_n 0, 1) := by decide +kernel
theorem dX4_goReturn_1 : decode cX4_goReturn 1 = .ok (.getfield 29, 3) := by decide +kernel
theorem dX4_goReturn_4 : decode cX4_goReturn 4 = .ok (.iload_n 1, 1) := by decide +kernel
theorem dX4_goReturn_5 : decode cX4_goReturn 5 = .ok (.invokevirtual 264, 3) := by decide +kernel
theorem dX4_goReturn_8 : decode cX4_goReturn 8 = .ok (.istore 4, 2) := by decide +kernel
theorem dX4_goReturn_10 : decode cX4_goReturn 10 = .ok (.iload 4, 2) := by decide +kernel
theorem dX4_goReturn_12 : decode cX4_goReturn 12 = .ok (.iconst (-1), 1) := by decide +kernel
theorem dX4_goReturn_13 : decode cX4_goReturn 13 = .ok (.if_icmp .ne 16, 3) := by decide +kernel
theorem dX4_goReturn_16 : decode cX4_goReturn 16 = .ok (.aload_n 0, 1) := by decide +kernel
theorem dX4_goReturn_17 : decode cX4_goReturn 17 = .ok (.dup, 1) := by decide +kernel
theorem dX4_goReturn_18 : decode cX4_goReturn 18 = .ok (.getfield 93, 3) := by decide +kernel
theorem dX4_goReturn_21 : decode cX4_goReturn 21 = .ok (.iconst 1, 1) := by decide +kernel
theorem dX4_goReturn_22 : decode cX4_goReturn 22 = .ok (.iadd, 1) := by decide +kernel
theorem dX4_goReturn_23 : decode cX4_goReturn 23 = .ok (.putfield 93, 3) := by decide +kernel
theorem dX4_goReturn_26 : decode cX4_goReturn 26 = .ok (.goto 19, 3) := by decide +kernel
theorem dX4_goReturn_29 : decode cX4_goReturn 29 = .ok (.aload_n 0, 1) := by decide +kernel
theorem dX4_goReturn_30 : decode cX4_goReturn 30 = .ok (.iload 4, 2) := by decide +kernel
theorem dX4_goReturn_32 : decode cX4_goReturn 32 = .ok (.iconst 0, 1) := by decide +kernel
theorem dX4_goReturn_33 : decode cX4_goReturn 33 = .ok (.aload_n 0, 1) := by decide +kernel
theorem dX4_goReturn_34 : decode cX4_goReturn 34 = .ok (.getfield 29, 3) := by decide +kernel
theorem dX4_goReturn_37 : decode cX4_goReturn 37 = .ok (.iload_n 1, 1) := by decide +kernel
theorem dX4_goReturn_38 : decode cX4_goReturn 38 = .ok (.invokevirtual 252, 3) := by decide +kernel
theorem dX4_goReturn_41 : decode cX4_goReturn 41 = .ok (.lload_n 2, 1) := by decide +kernel
theorem dX4_goReturn_42 : decode cX4_goReturn 42 = .ok (.invokevirtual 223, 3) := by decide +kernel
theorem dX4_goReturn_45 : decode cX4_goReturn 45 = .ok (.return_, 1) := by decide +kernel
set_option maxRecDepth 20000 in
theorem ggX4_goMake_X8_refuse : GoodIn wsX4_goMake wsX8_refuse := goodIn_r _ [7, 8, 9, 6, 10, 11, 12, 13, 14, 15] (by decide +kernel) (by decide +kernel)
set_option maxRecDepth 20000 in
theorem gX4_goMake_X8_refuse : GoodIn wsX4_goMake (va_wsS RX4 232 yX8_refuse wsX8_refuse) := goodIn_app (goodIn_of _ (by decide +kernel)) ggX4_goMake_X8_refuse
set_option maxRecDepth 20000 in
theorem ggX4_goMake_X8_contentOf : GoodIn wsX4_goMake wsX8_contentOf := goodIn_r _ [18] (by decide +kernel) (by decide +kernel)
set_option maxRecDepth 20000 in
theorem gX4_goMake_X8_contentOf : GoodIn wsX4_goMake (va_wsS RX4 111 yX8_contentOf wsX8_contentOf) := goodIn_app (goodIn_of _ (by decide +kernel)) ggX4_goMake_X8_contentOf
set_option maxRecDepth 20000 in
theorem ggX4_goMake_X8_ofFault : GoodIn wsX4_goMake wsX8_ofFault := goodIn_r _ [13, 14, 15] (by decide +kernel) (by decide +kernel)
set_option maxRecDepth 20000 in
theorem gX4_goMake_X8_ofFault : GoodIn wsX4_goMake (va_wsS RX4 244 yX8_ofFault wsX8_ofFault) := goodIn_app (goodIn_of _ (by decide +kernel)) ggX4_goMake_X8_ofFault
set_option maxRecDepth 20000 in
theorem ggX4_goMake_X4_give : GoodIn wsX4_goMake wsX4_give := goodIn_r _ [24, 25, 2, 26, 27, 28, 29, 30, 31, 32, 33, 34, 35, 36, 37, 23, 38, 39, 40, 41, 42, 43, 44, 45, 46, 47, 48, 49, 50, 51, 52, 53, 54, 55, 56, 57, 58, 59, 60, 61, 62, 63, 64, 65, 66, 67, 68, 69, 70, 71, 72, 73, 74, 75, 76, 77, 78, 95, 96, 97, 98, 99, 100, 101, 102, 103, 104, 105, 106, 107, 108, 119, 120, 121, 122, 123, 124, 125, 126, 127, 128, 129, 130, 131, 132, 133, 134, 135, 136, 137, 138, 139, 140, 141, 142, 143, 144] (by decide +kernel) (by decide +kernel)
set_option maxRecDepth 20000 in
theorem gX4_goMake_X4_give : GoodIn wsX4_goMake (wsV RX4 223 RX4 yX4_give wsX4_give) := goodIn_app (goodIn_of _ (by decide +kernel)) ggX4_goMake_X4_give
set_option maxRecDepth 20000 in
theorem ggX4_goMake_X6_make : GoodIn wsX4_goMake wsX6_make := goodIn_r _ [83, 84, 85, 86, 87, 88, 89, 90, 109, 110, 111, 112, 113, 114, 115, 116, 117, 118] (by decide +kernel) (by decide +kernel)
set_option maxRecDepth 20000 in
theorem gX4_goMake_X6_make : GoodIn wsX4_goMake (wsV RX4 267 RX6 yX6_make wsX6_make) := goodIn_app (goodIn_of _ (by decide +kernel)) ggX4_goMake_X6_make
set_option maxRecDepth 20000 in
theorem ggX4_goMake_X8_ofRow : GoodIn wsX4_goMake wsX8_ofRow := goodIn_r _ [93, 94, 15] (by decide +kernel) (by decide +kernel)
set_option maxRecDepth 20000 in
theorem gX4_goMake_X8_ofRow : GoodIn wsX4_goMake (va_wsS RX4 124 yX8_ofRow wsX8_ofRow) := goodIn_app (goodIn_of _ (by decide +kernel)) ggX4_goMake_X8_ofRow
theorem dX4_goMake_0 : decode cX4_goMake 0 = .ok (.iload_n 1, 1) := by decide +kernel
theorem dX4_goMake_1 : decode cX4_goMake 1 = .ok (.lload_n 3, 1) := by decide +kernel
theorem dX4_goMake_2 : decode cX4_goMake 2 = .ok (.iconst 1, 1) := by decide +kernel
theorem dX4_goMake_3 : decode cX4_goMake 3 = .ok (.invokestatic 232, 3) := by decide +kernel
theorem dX4_goMake_6 : decode cX4_goMake 6 = .ok (.lstore 5, 2) := by decide +kernel
theorem dX4_goMake_8 : decode cX4_goMake 8 = .ok (.lload_n 3, 1) := by decide +kernel
theorem dX4_goMake_9 : decode cX4_goMake 9 = .ok (.invokestatic 111, 3) := by decide +kernel
theorem dX4_goMake_12 : decode cX4_goMake 12 = .ok (.istore 7, 2) := by decide +kernel
theorem dX4_goMake_14 : decode cX4_goMake 14 = .ok (.lload 5, 2) := by decide +kernel
theorem dX4_goMake_16 : decode cX4_goMake 16 = .ok (.lconst 0, 1) := by decide +kernel
theorem dX4_goMake_17 : decode cX4_goMake 17 = .ok (.lcmp, 1) := by decide +kernel
theorem dX4_goMake_18 : decode cX4_goMake 18 = .ok (.ifCond .ne 23, 3) := by decide +kernel
theorem dX4_goMake_21 : decode cX4_goMake 21 = .ok (.iload 7, 2) := by decide +kernel
theorem dX4_goMake_23 : decode cX4_goMake 23 = .ok (.ifCond .lt 11, 3) := by decide +kernel
theorem dX4_goMake_26 : decode cX4_goMake 26 = .ok (.iload 7, 2) := by decide +kernel
theorem dX4_goMake_28 : decode cX4_goMake 28 = .ok (.sipush 200, 3) := by decide +kernel
theorem dX4_goMake_31 : decode cX4_goMake 31 = .ok (.if_icmp .le 10, 3) := by decide +kernel
theorem dX4_goMake_34 : decode cX4_goMake 34 = .ok (.iconst 3, 1) := by decide +kernel
theorem dX4_goMake_35 : decode cX4_goMake 35 = .ok (.iload_n 1, 1) := by decide +kernel
theorem dX4_goMake_36 : decode cX4_goMake 36 = .ok (.invokestatic 244, 3) := by decide +kernel
theorem dX4_goMake_39 : decode cX4_goMake 39 = .ok (.lstore 5, 2) := by decide +kernel
theorem dX4_goMake_41 : decode cX4_goMake 41 = .ok (.lload 5, 2) := by decide +kernel
theorem dX4_goMake_43 : decode cX4_goMake 43 = .ok (.lconst 0, 1) := by decide +kernel
theorem dX4_goMake_44 : decode cX4_goMake 44 = .ok (.lcmp, 1) := by decide +kernel
theorem dX4_goMake_45 : decode cX4_goMake 45 = .ok (.ifCond .eq 13, 3) := by decide +kernel
theorem dX4_goMake_48 : decode cX4_goMake 48 = .ok (.aload_n 0, 1) := by decide +kernel
theorem dX4_goMake_49 : decode cX4_goMake 49 = .ok (.iload_n 1, 1) := by decide +kernel
theorem dX4_goMake_50 : decode cX4_goMake 50 = .ok (.iconst 0, 1) := by decide +kernel
theorem dX4_goMake_51 : decode cX4_goMake 51 = .ok (.iload_n 2, 1) := by decide +kernel
theorem dX4_goMake_52 : decode cX4_goMake 52 = .ok (.lload 5, 2) := by decide +kernel
theorem dX4_goMake_54 : decode cX4_goMake 54 = .ok (.invokevirtual 223, 3) := by decide +kernel
theorem dX4_goMake_57 : decode cX4_goMake 57 = .ok (.return_, 1) := by decide +kernel
theorem dX4_goMake_58 : decode cX4_goMake 58 = .ok (.aload_n 0, 1) := by decide +kernel
theorem dX4_goMake_59 : decode cX4_goMake 59 = .ok (.getfield 12, 3) := by decide +kernel
theorem dX4_goMake_62 : decode cX4_goMake 62 = .ok (.iload 7, 2) := by decide +kernel
theorem dX4_goMake_64 : decode cX4_goMake 64 = .ok (.invokevirtual 267, 3) := by decide +kernel
theorem dX4_goMake_67 : decode cX4_goMake 67 = .ok (.istore 8, 2) := by decide +kernel
theorem dX4_goMake_69 : decode cX4_goMake 69 = .ok (.iload 8, 2) := by decide +kernel
theorem dX4_goMake_71 : decode cX4_goMake 71 = .ok (.iconst (-1), 1) := by decide +kernel
theorem dX4_goMake_72 : decode cX4_goMake 72 = .ok (.if_icmp .ne 9, 3) := by decide +kernel
theorem dX4_goMake_75 : decode cX4_goMake 75 = .ok (.aload_n 0, 1) := by decide +kernel
theorem dX4_goMake_76 : decode cX4_goMake 76 = .ok (.iconst 2, 1) := by decide +kernel
theorem dX4_goMake_77 : decode cX4_goMake 77 = .ok (.putfield 78, 3) := by decide +kernel
theorem dX4_goMake_80 : decode cX4_goMake 80 = .ok (.return_, 1) := by decide +kernel
theorem dX4_goMake_81 : decode cX4_goMake 81 = .ok (.iload_n 2, 1) := by decide +kernel
theorem dX4_goMake_82 : decode cX4_goMake 82 = .ok (.ifCond .ne 14, 3) := by decide +kernel
theorem dX4_goMake_85 : decode cX4_goMake 85 = .ok (.aload_n 0, 1) := by decide +kernel
theorem dX4_goMake_86 : decode cX4_goMake 86 = .ok (.getfield 12, 3) := by decide +kernel
theorem dX4_goMake_89 : decode cX4_goMake 89 = .ok (.getfield 270, 3) := by decide +kernel
theorem dX4_goMake_92 : decode cX4_goMake 92 = .ok (.iload_n 1, 1) := by decide +kernel
theorem dX4_goMake_93 : decode cX4_goMake 93 = .ok (.iload 8, 2) := by decide +kernel
theorem dX4_goMake_95 : decode cX4_goMake 95 = .ok (.iastore, 1) := by decide +kernel
theorem dX4_goMake_96 : decode cX4_goMake 96 = .ok (.aload_n 0, 1) := by decide +kernel
theorem dX4_goMake_97 : decode cX4_goMake 97 = .ok (.iload_n 1, 1) := by decide +kernel
theorem dX4_goMake_98 : decode cX4_goMake 98 = .ok (.iconst 0, 1) := by decide +kernel
theorem dX4_goMake_99 : decode cX4_goMake 99 = .ok (.iload_n 2, 1) := by decide +kernel
theorem dX4_goMake_100 : decode cX4_goMake 100 = .ok (.iload 8, 2) := by decide +kernel
theorem dX4_goMake_102 : decode cX4_goMake 102 = .ok (.invokestatic 124, 3) := by decide +kernel
theorem dX4_goMake_105 : decode cX4_goMake 105 = .ok (.invokevirtual 223, 3) := by decide +kernel
theorem dX4_goMake_108 : decode cX4_goMake 108 = .ok (.return_, 1) := by decide +kernel
set_option maxRecDepth 20000 in
theorem ggX4_goRead_X4_placeAsked : GoodIn wsX4_goRead wsX4_placeAsked := goodIn_r _ [7, 8, 1, 9, 10, 11, 12, 13, 14, 15, 16, 17, 18, 19, 20, 21, 22, 23, 24, 25, 26, 27, 28, 29, 30, 111, 112, 113, 114, 115, 116, 117, 118, 119, 120, 121, 122, 123, 124, 135, 136, 137, 138, 139, 140, 141, 142, 125, 126, 127, 128, 129, 130, 131, 132, 133, 134] (by decide +kernel) (by decide +kernel)
set_option maxRecDepth 20000 in
theorem gX4_goRead_X4_placeAsked : GoodIn wsX4_goRead (wsV RX4 273 RX4 yX4_placeAsked wsX4_placeAsked) := goodIn_app (goodIn_of _ (by decide +kernel)) ggX4_goRead_X4_placeAsked
set_option maxRecDepth 20000 in
theorem ggX4_goRead_X4_refuseCell : GoodIn wsX4_goRead wsX4_refuseCell := goodIn_r _ [34, 8, 9, 10, 11, 12, 13, 14, 35, 36, 17, 37, 38, 39, 40, 41, 42, 43, 44, 45, 46, 111, 112, 113, 114, 115, 116, 117, 118, 119, 120, 121, 122, 123, 124, 135, 136, 137, 138, 139, 140, 141, 142] (by decide +kernel) (by decide +kernel)
set_option maxRecDepth 20000 in
theorem gX4_goRead_X4_refuseCell : GoodIn wsX4_goRead (wsV RX4 276 RX4 yX4_refuseCell wsX4_refuseCell) := goodIn_app (goodIn_of _ (by decide +kernel)) ggX4_goRead_X4_refuseCell
set_option maxRecDepth 20000 in
theorem ggX4_goRead_X4_give : GoodIn wsX4_goRead wsX4_give := goodIn_r _ [50, 51, 52, 53, 54, 55, 56, 57, 58, 59, 60, 61, 62, 63, 64, 6, 65, 8, 66, 67, 68, 69, 70, 12, 71, 72, 73, 74, 75, 76, 77, 78, 79, 80, 81, 82, 83, 84, 85, 86, 87, 88, 89, 90, 91, 92, 93, 94, 14, 95, 96, 97, 98, 99, 100, 101, 102, 111, 112, 113, 114, 115, 116, 117, 118, 119, 120, 121, 122, 123, 124, 143, 144, 145, 146, 147, 148, 149, 150, 151, 152, 153, 154, 155, 156, 157, 135, 136, 137, 138, 139, 140, 141, 142, 158, 159, 160] (by decide +kernel) (by decide +kernel)
set_option maxRecDepth 20000 in
theorem gX4_goRead_X4_give : GoodIn wsX4_goRead (wsV RX4 223 RX4 yX4_give wsX4_give) := goodIn_app (goodIn_of _ (by decide +kernel)) ggX4_goRead_X4_give
set_option maxRecDepth 20000 in
theorem ggX4_goRead_X6_addReader : GoodIn wsX4_goRead wsX6_addReader := goodIn_r _ [106, 107, 108, 109, 110, 125, 126, 127, 128, 129, 130, 131, 132, 133, 134] (by decide +kernel) (by decide +kernel)
set_option maxRecDepth 20000 in
theorem gX4_goRead_X6_addReader : GoodIn wsX4_goRead (wsV RX4 283 RX6 yX6_addReader wsX6_addReader) := goodIn_app (goodIn_of _ (by decide +kernel)) ggX4_goRead_X6_addReader
theorem dX4_goRead_0 : decode cX4_goRead 0 = .ok (.aload_n 0, 1) := by decide +kernel
theorem dX4_goRead_1 : decode cX4_goRead 1 = .ok (.iload_n 1, 1) := by decide +kernel
theorem dX4_goRead_2 : decode cX4_goRead 2 = .ok (.invokevirtual 273, 3) := by decide +kernel
theorem dX4_goRead_5 : decode cX4_goRead 5 = .ok (.istore 4, 2) := by decide +kernel
theorem dX4_goRead_7 : decode cX4_goRead 7 = .ok (.aload_n 0, 1) := by decide +kernel
theorem dX4_goRead_8 : decode cX4_goRead 8 = .ok (.iload_n 1, 1) := by decide +kernel
theorem dX4_goRead_9 : decode cX4_goRead 9 = .ok (.iload_n 2, 1) := by decide +kernel
theorem dX4_goRead_10 : decode cX4_goRead 10 = .ok (.iload 4, 2) := by decide +kernel
theorem dX4_goRead_12 : decode cX4_goRead 12 = .ok (.invokevirtual 276, 3) := by decide +kernel
theorem dX4_goRead_15 : decode cX4_goRead 15 = .ok (.lstore 5, 2) := by decide +kernel
theorem dX4_goRead_17 : decode cX4_goRead 17 = .ok (.lload 5, 2) := by decide +kernel
theorem dX4_goRead_19 : decode cX4_goRead 19 = .ok (.lconst 0, 1) := by decide +kernel
theorem dX4_goRead_20 : decode cX4_goRead 20 = .ok (.lcmp, 1) := by decide +kernel
theorem dX4_goRead_21 : decode cX4_goRead 21 = .ok (.ifCond .ne 9, 3) := by decide +kernel
theorem dX4_goRead_24 : decode cX4_goRead 24 = .ok (.iload 4, 2) := by decide +kernel
theorem dX4_goRead_26 : decode cX4_goRead 26 = .ok (.iconst (-1), 1) := by decide +kernel
theorem dX4_goRead_27 : decode cX4_goRead 27 = .ok (.if_icmp .ne 13, 3) := by decide +kernel
theorem dX4_goRead_30 : decode cX4_goRead 30 = .ok (.aload_n 0, 1) := by decide +kernel
theorem dX4_goRead_31 : decode cX4_goRead 31 = .ok (.iload_n 2, 1) := by decide +kernel
theorem dX4_goRead_32 : decode cX4_goRead 32 = .ok (.iconst 0, 1) := by decide +kernel
theorem dX4_goRead_33 : decode cX4_goRead 33 = .ok (.iload_n 3, 1) := by decide +kernel
theorem dX4_goRead_34 : decode cX4_goRead 34 = .ok (.lload 5, 2) := by decide +kernel
theorem dX4_goRead_36 : decode cX4_goRead 36 = .ok (.invokevirtual 223, 3) := by decide +kernel
theorem dX4_goRead_39 : decode cX4_goRead 39 = .ok (.return_, 1) := by decide +kernel
theorem dX4_goRead_40 : decode cX4_goRead 40 = .ok (.aload_n 0, 1) := by decide +kernel
theorem dX4_goRead_41 : decode cX4_goRead 41 = .ok (.getfield 12, 3) := by decide +kernel
theorem dX4_goRead_44 : decode cX4_goRead 44 = .ok (.getfield 280, 3) := by decide +kernel
theorem dX4_goRead_47 : decode cX4_goRead 47 = .ok (.iload 4, 2) := by decide +kernel
theorem dX4_goRead_49 : decode cX4_goRead 49 = .ok (.laload, 1) := by decide +kernel
theorem dX4_goRead_50 : decode cX4_goRead 50 = .ok (.lstore 7, 2) := by decide +kernel
theorem dX4_goRead_52 : decode cX4_goRead 52 = .ok (.lload 7, 2) := by decide +kernel
theorem dX4_goRead_54 : decode cX4_goRead 54 = .ok (.lconst 0, 1) := by decide +kernel
theorem dX4_goRead_55 : decode cX4_goRead 55 = .ok (.lcmp, 1) := by decide +kernel
theorem dX4_goRead_56 : decode cX4_goRead 56 = .ok (.ifCond .ne 16, 3) := by decide +kernel
theorem dX4_goRead_59 : decode cX4_goRead 59 = .ok (.aload_n 0, 1) := by decide +kernel
theorem dX4_goRead_60 : decode cX4_goRead 60 = .ok (.getfield 12, 3) := by decide +kernel
theorem dX4_goRead_63 : decode cX4_goRead 63 = .ok (.iload 4, 2) := by decide +kernel
theorem dX4_goRead_65 : decode cX4_goRead 65 = .ok (.iload_n 1, 1) := by decide +kernel
theorem dX4_goRead_66 : decode cX4_goRead 66 = .ok (.invokevirtual 283, 3) := by decide +kernel
theorem dX4_goRead_69 : decode cX4_goRead 69 = .ok (.goto 12, 3) := by decide +kernel
theorem dX4_goRead_72 : decode cX4_goRead 72 = .ok (.aload_n 0, 1) := by decide +kernel
theorem dX4_goRead_73 : decode cX4_goRead 73 = .ok (.iload_n 2, 1) := by decide +kernel
theorem dX4_goRead_74 : decode cX4_goRead 74 = .ok (.iconst 0, 1) := by decide +kernel
theorem dX4_goRead_75 : decode cX4_goRead 75 = .ok (.iload_n 3, 1) := by decide +kernel
theorem dX4_goRead_76 : decode cX4_goRead 76 = .ok (.lload 7, 2) := by decide +kernel
theorem dX4_goRead_78 : decode cX4_goRead 78 = .ok (.invokevirtual 223, 3) := by decide +kernel
theorem dX4_goRead_81 : decode cX4_goRead 81 = .ok (.return_, 1) := by decide +kernel
set_option maxRecDepth 20000 in
theorem ggX4_goWrite_X4_placeAsked : GoodIn wsX4_goWrite wsX4_placeAsked := goodIn_r _ [11, 3, 1, 12, 13, 14, 15, 16, 17, 18, 19, 20, 21, 22, 23, 24, 25, 26, 27, 28, 29, 30, 31, 32, 33, 112, 113, 114, 115, 116, 117, 118, 119, 120, 121, 122, 123, 124, 125, 136, 137, 138, 139, 140, 141, 142, 143, 126, 127, 128, 129, 130, 131, 132, 133, 134, 135] (by decide +kernel) (by decide +kernel)
set_option maxRecDepth 20000 in
theorem gX4_goWrite_X4_placeAsked : GoodIn wsX4_goWrite (wsV RX4 273 RX4 yX4_placeAsked wsX4_placeAsked) := goodIn_app (goodIn_of _ (by decide +kernel)) ggX4_goWrite_X4_placeAsked
set_option maxRecDepth 20000 in
theorem ggX4_goWrite_X4_refuseCell : GoodIn wsX4_goWrite wsX4_refuseCell := goodIn_r _ [37, 3, 12, 13, 14, 15, 16, 17, 38, 39, 20, 40, 41, 42, 43, 44, 45, 46, 47, 48, 49, 112, 113, 114, 115, 116, 117, 118, 119, 120, 121, 122, 123, 124, 125, 136, 137, 138, 139, 140, 141, 142, 143] (by decide +kernel) (by decide +kernel)
set_option maxRecDepth 20000 in
theorem gX4_goWrite_X4_refuseCell : GoodIn wsX4_goWrite (wsV RX4 276 RX4 yX4_refuseCell wsX4_refuseCell) := goodIn_app (goodIn_of _ (by decide +kernel)) ggX4_goWrite_X4_refuseCell
set_option maxRecDepth 20000 in
theorem ggX4_goWrite_X4_give : GoodIn wsX4_goWrite wsX4_give := goodIn_r _ [53, 54, 6, 55, 56, 57, 58, 59, 60, 61, 62, 63, 64, 65, 66, 10, 67, 3, 68, 69, 70, 71, 72, 15, 73, 74, 75, 76, 77, 78, 79, 80, 81, 82, 83, 84, 85, 86, 87, 88, 89, 90, 91, 92, 93, 94, 95, 96, 17, 97, 98, 99, 100, 101, 102, 103, 104, 112, 113, 114, 115, 116, 117, 118, 119, 120, 121, 122, 123, 124, 125, 144, 145, 146, 147, 148, 149, 150, 151, 152, 153, 154, 155, 156, 157, 158, 136, 137, 138, 139, 140, 141, 142, 143, 159, 160, 161] (by decide +kernel) (by decide +kernel)
set_option maxRecDepth 20000 in
theorem gX4_goWrite_X4_give : GoodIn wsX4_goWrite (wsV RX4 223 RX4 yX4_give wsX4_give) := goodIn_app (goodIn_of _ (by decide +kernel)) ggX4_goWrite_X4_give
set_option maxRecDepth 20000 in
theorem ggX4_goWrite_X4_clashAt : GoodIn wsX4_goWrite wsX4_clashAt := goodIn_r _ [91, 6, 92, 112, 113, 114, 115, 116, 117, 118, 119, 120, 121, 122, 123, 124, 125] (by decide +kernel) (by decide +kernel)
set_option maxRecDepth 20000 in
theorem gX4_goWrite_X4_clashAt : GoodIn wsX4_goWrite (wsV RX4 287 RX4 yX4_clashAt wsX4_clashAt) := goodIn_app (goodIn_of _ (by decide +kernel)) ggX4_goWrite_X4_clashAt
set_option maxRecDepth 20000 in
theorem ggX4_goWrite_X1_cameTo : GoodIn wsX4_goWrite wsX1_cameTo := goodIn_r _ [16, 17, 136, 137, 138, 139, 140, 141, 142, 143] (by decide +kernel) (by decide +kernel)
set_option maxRecDepth 20000 in
theorem gX4_goWrite_X1_cameTo : GoodIn wsX4_goWrite (wsV RX4 175 RX1 yX1_cameTo wsX1_cameTo) := goodIn_app (goodIn_of _ (by decide +kernel)) ggX4_goWrite_X1_cameTo
set_option maxRecDepth 20000 in
theorem ggX4_goWrite_X6_takeReader : GoodIn wsX4_goWrite wsX6_takeReader := goodIn_r _ [108, 109, 110, 111, 126, 127, 128, 129, 130, 131, 132, 133, 134, 135] (by decide +kernel) (by decide +kernel)
set_option maxRecDepth 20000 in
theorem gX4_goWrite_X6_takeReader : GoodIn wsX4_goWrite (wsV RX4 290 RX6 yX6_takeReader wsX6_takeReader) := goodIn_app (goodIn_of _ (by decide +kernel)) ggX4_goWrite_X6_takeReader
theorem dX4_goWrite_0 : decode cX4_goWrite 0 = .ok (.aload_n 0, 1) := by decide +kernel
theorem dX4_goWrite_1 : decode cX4_goWrite 1 = .ok (.iload_n 1, 1) := by decide +kernel
theorem dX4_goWrite_2 : decode cX4_goWrite 2 = .ok (.invokevirtual 273, 3) := by decide +kernel
theorem dX4_goWrite_5 : decode cX4_goWrite 5 = .ok (.istore 4, 2) := by decide +kernel
theorem dX4_goWrite_7 : decode cX4_goWrite 7 = .ok (.aload_n 0, 1) := by decide +kernel
theorem dX4_goWrite_8 : decode cX4_goWrite 8 = .ok (.iload_n 1, 1) := by decide +kernel
theorem dX4_goWrite_9 : decode cX4_goWrite 9 = .ok (.iload_n 2, 1) := by decide +kernel
theorem dX4_goWrite_10 : decode cX4_goWrite 10 = .ok (.iload 4, 2) := by decide +kernel
theorem dX4_goWrite_12 : decode cX4_goWrite 12 = .ok (.invokevirtual 276, 3) := by decide +kernel
theorem dX4_goWrite_15 : decode cX4_goWrite 15 = .ok (.lstore 5, 2) := by decide +kernel
theorem dX4_goWrite_17 : decode cX4_goWrite 17 = .ok (.lload 5, 2) := by decide +kernel
theorem dX4_goWrite_19 : decode cX4_goWrite 19 = .ok (.lconst 0, 1) := by decide +kernel
theorem dX4_goWrite_20 : decode cX4_goWrite 20 = .ok (.lcmp, 1) := by decide +kernel
theorem dX4_goWrite_21 : decode cX4_goWrite 21 = .ok (.ifCond .ne 9, 3) := by decide +kernel
theorem dX4_goWrite_24 : decode cX4_goWrite 24 = .ok (.iload 4, 2) := by decide +kernel
theorem dX4_goWrite_26 : decode cX4_goWrite 26 = .ok (.iconst (-1), 1) := by decide +kernel
theorem dX4_goWrite_27 : decode cX4_goWrite 27 = .ok (.if_icmp .ne 13, 3) := by decide +kernel
theorem dX4_goWrite_30 : decode cX4_goWrite 30 = .ok (.aload_n 0, 1) := by decide +kernel
theorem dX4_goWrite_31 : decode cX4_goWrite 31 = .ok (.iload_n 2, 1) := by decide +kernel
theorem dX4_goWrite_32 : decode cX4_goWrite 32 = .ok (.iconst 0, 1) := by decide +kernel
theorem dX4_goWrite_33 : decode cX4_goWrite 33 = .ok (.iload_n 3, 1) := by decide +kernel
theorem dX4_goWrite_34 : decode cX4_goWrite 34 = .ok (.lload 5, 2) := by decide +kernel
theorem dX4_goWrite_36 : decode cX4_goWrite 36 = .ok (.invokevirtual 223, 3) := by decide +kernel
theorem dX4_goWrite_39 : decode cX4_goWrite 39 = .ok (.return_, 1) := by decide +kernel
theorem dX4_goWrite_40 : decode cX4_goWrite 40 = .ok (.aload_n 0, 1) := by decide +kernel
theorem dX4_goWrite_41 : decode cX4_goWrite 41 = .ok (.getfield 12, 3) := by decide +kernel
theorem dX4_goWrite_44 : decode cX4_goWrite 44 = .ok (.getfield 280, 3) := by decide +kernel
theorem dX4_goWrite_47 : decode cX4_goWrite 47 = .ok (.iload 4, 2) := by decide +kernel
theorem dX4_goWrite_49 : decode cX4_goWrite 49 = .ok (.laload, 1) := by decide +kernel
theorem dX4_goWrite_50 : decode cX4_goWrite 50 = .ok (.lconst 0, 1) := by decide +kernel
theorem dX4_goWrite_51 : decode cX4_goWrite 51 = .ok (.lcmp, 1) := by decide +kernel
theorem dX4_goWrite_52 : decode cX4_goWrite 52 = .ok (.ifCond .eq 9, 3) := by decide +kernel
theorem dX4_goWrite_55 : decode cX4_goWrite 55 = .ok (.aload_n 0, 1) := by decide +kernel
theorem dX4_goWrite_56 : decode cX4_goWrite 56 = .ok (.iload_n 2, 1) := by decide +kernel
theorem dX4_goWrite_57 : decode cX4_goWrite 57 = .ok (.invokevirtual 287, 3) := by decide +kernel
theorem dX4_goWrite_60 : decode cX4_goWrite 60 = .ok (.return_, 1) := by decide +kernel
theorem dX4_goWrite_61 : decode cX4_goWrite 61 = .ok (.aload_n 0, 1) := by decide +kernel
theorem dX4_goWrite_62 : decode cX4_goWrite 62 = .ok (.getfield 36, 3) := by decide +kernel
theorem dX4_goWrite_65 : decode cX4_goWrite 65 = .ok (.iload_n 1, 1) := by decide +kernel
theorem dX4_goWrite_66 : decode cX4_goWrite 66 = .ok (.iconst 2, 1) := by decide +kernel
theorem dX4_goWrite_67 : decode cX4_goWrite 67 = .ok (.invokevirtual 175, 3) := by decide +kernel
theorem dX4_goWrite_70 : decode cX4_goWrite 70 = .ok (.lstore 7, 2) := by decide +kernel
theorem dX4_goWrite_72 : decode cX4_goWrite 72 = .ok (.aload_n 0, 1) := by decide +kernel
theorem dX4_goWrite_73 : decode cX4_goWrite 73 = .ok (.getfield 12, 3) := by decide +kernel
theorem dX4_goWrite_76 : decode cX4_goWrite 76 = .ok (.getfield 280, 3) := by decide +kernel
theorem dX4_goWrite_79 : decode cX4_goWrite 79 = .ok (.iload 4, 2) := by decide +kernel
theorem dX4_goWrite_81 : decode cX4_goWrite 81 = .ok (.lload 7, 2) := by decide +kernel
theorem dX4_goWrite_83 : decode cX4_goWrite 83 = .ok (.lastore, 1) := by decide +kernel
theorem dX4_goWrite_84 : decode cX4_goWrite 84 = .ok (.aload_n 0, 1) := by decide +kernel
theorem dX4_goWrite_85 : decode cX4_goWrite 85 = .ok (.getfield 12, 3) := by decide +kernel
theorem dX4_goWrite_88 : decode cX4_goWrite 88 = .ok (.iload 4, 2) := by decide +kernel
theorem dX4_goWrite_90 : decode cX4_goWrite 90 = .ok (.invokevirtual 290, 3) := by decide +kernel
theorem dX4_goWrite_93 : decode cX4_goWrite 93 = .ok (.istore 9, 2) := by decide +kernel
theorem dX4_goWrite_95 : decode cX4_goWrite 95 = .ok (.iconst 0, 1) := by decide +kernel
theorem dX4_goWrite_96 : decode cX4_goWrite 96 = .ok (.istore 10, 2) := by decide +kernel
theorem dX4_goWrite_98 : decode cX4_goWrite 98 = .ok (.iload 10, 2) := by decide +kernel
theorem dX4_goWrite_100 : decode cX4_goWrite 100 = .ok (.sipush 3000, 3) := by decide +kernel
theorem dX4_goWrite_103 : decode cX4_goWrite 103 = .ok (.if_icmp .ge 65, 3) := by decide +kernel
theorem dX4_goWrite_106 : decode cX4_goWrite 106 = .ok (.iload 9, 2) := by decide +kernel
theorem dX4_goWrite_108 : decode cX4_goWrite 108 = .ok (.iconst (-1), 1) := by decide +kernel
theorem dX4_goWrite_109 : decode cX4_goWrite 109 = .ok (.if_icmp .eq 59, 3) := by decide +kernel
theorem dX4_goWrite_112 : decode cX4_goWrite 112 = .ok (.aload_n 0, 1) := by decide +kernel
theorem dX4_goWrite_113 : decode cX4_goWrite 113 = .ok (.aload_n 0, 1) := by decide +kernel
theorem dX4_goWrite_114 : decode cX4_goWrite 114 = .ok (.getfield 36, 3) := by decide +kernel
theorem dX4_goWrite_117 : decode cX4_goWrite 117 = .ok (.getfield 170, 3) := by decide +kernel
theorem dX4_goWrite_120 : decode cX4_goWrite 120 = .ok (.iload 9, 2) := by decide +kernel
theorem dX4_goWrite_122 : decode cX4_goWrite 122 = .ok (.iaload, 1) := by decide +kernel
theorem dX4_goWrite_123 : decode cX4_goWrite 123 = .ok (.iconst 0, 1) := by decide +kernel
theorem dX4_goWrite_124 : decode cX4_goWrite 124 = .ok (.aload_n 0, 1) := by decide +kernel
theorem dX4_goWrite_125 : decode cX4_goWrite 125 = .ok (.getfield 36, 3) := by decide +kernel
theorem dX4_goWrite_128 : decode cX4_goWrite 128 = .ok (.getfield 172, 3) := by decide +kernel
theorem dX4_goWrite_131 : decode cX4_goWrite 131 = .ok (.iload 9, 2) := by decide +kernel
theorem dX4_goWrite_133 : decode cX4_goWrite 133 = .ok (.iaload, 1) := by decide +kernel
theorem dX4_goWrite_134 : decode cX4_goWrite 134 = .ok (.lload 7, 2) := by decide +kernel
theorem dX4_goWrite_136 : decode cX4_goWrite 136 = .ok (.invokevirtual 223, 3) := by decide +kernel
theorem dX4_goWrite_139 : decode cX4_goWrite 139 = .ok (.aload_n 0, 1) := by decide +kernel
theorem dX4_goWrite_140 : decode cX4_goWrite 140 = .ok (.getfield 78, 3) := by decide +kernel
theorem dX4_goWrite_143 : decode cX4_goWrite 143 = .ok (.iconst (-1), 1) := by decide +kernel
theorem dX4_goWrite_144 : decode cX4_goWrite 144 = .ok (.if_icmp .ne 15, 3) := by decide +kernel
theorem dX4_goWrite_147 : decode cX4_goWrite 147 = .ok (.aload_n 0, 1) := by decide +kernel
theorem dX4_goWrite_148 : decode cX4_goWrite 148 = .ok (.getfield 12, 3) := by decide +kernel
theorem dX4_goWrite_151 : decode cX4_goWrite 151 = .ok (.iload 4, 2) := by decide +kernel
theorem dX4_goWrite_153 : decode cX4_goWrite 153 = .ok (.invokevirtual 290, 3) := by decide +kernel
theorem dX4_goWrite_156 : decode cX4_goWrite 156 = .ok (.goto 4, 3) := by decide +kernel
theorem dX4_goWrite_159 : decode cX4_goWrite 159 = .ok (.iconst (-1), 1) := by decide +kernel
theorem dX4_goWrite_160 : decode cX4_goWrite 160 = .ok (.istore 9, 2) := by decide +kernel
theorem dX4_goWrite_162 : decode cX4_goWrite 162 = .ok (.iinc 10 1, 3) := by decide +kernel
theorem dX4_goWrite_165 : decode cX4_goWrite 165 = .ok (.goto (-67), 3) := by decide +kernel
theorem dX4_goWrite_168 : decode cX4_goWrite 168 = .ok (.aload_n 0, 1) := by decide +kernel
theorem dX4_goWrite_169 : decode cX4_goWrite 169 = .ok (.iload_n 2, 1) := by decide +kernel
theorem dX4_goWrite_170 : decode cX4_goWrite 170 = .ok (.iconst 0, 1) := by decide +kernel
theorem dX4_goWrite_171 : decode cX4_goWrite 171 = .ok (.iload_n 3, 1) := by decide +kernel
theorem dX4_goWrite_172 : decode cX4_goWrite 172 = .ok (.lload 7, 2) := by decide +kernel
theorem dX4_goWrite_174 : decode cX4_goWrite 174 = .ok (.invokevirtual 223, 3) := by decide +kernel
theorem dX4_goWrite_177 : decode cX4_goWrite 177 = .ok (.return_, 1) := by decide +kernel
set_option maxRecDepth 20000 in
theorem ggX4_refuseCell_X1_cameTo : GoodIn wsX4_refuseCell wsX1_cameTo := goodIn_r _ [6, 7, 35, 36, 37, 38, 39, 40, 41, 42] (by decide +kernel) (by decide +kernel)
set_option maxRecDepth 20000 in
theorem gX4_refuseCell_X1_cameTo : GoodIn wsX4_refuseCell (wsV RX4 175 RX1 yX1_cameTo wsX1_cameTo) := goodIn_app (goodIn_of _ (by decide +kernel)) ggX4_refuseCell_X1_cameTo
set_option maxRecDepth 20000 in
theorem ggX4_refuseCell_X8_refuseTwo : GoodIn wsX4_refuseCell wsX8_refuseTwo := goodIn_r _ [11, 12, 13, 10, 14, 15, 16, 17, 18, 19] (by decide +kernel) (by decide +kernel)
set_option maxRecDepth 20000 in
theorem gX4_refuseCell_X8_refuseTwo : GoodIn wsX4_refuseCell (va_wsS RX4 293 yX8_refuseTwo wsX8_refuseTwo) := goodIn_app (goodIn_of _ (by decide +kernel)) ggX4_refuseCell_X8_refuseTwo
set_option maxRecDepth 20000 in
theorem ggX4_refuseCell_X8_ofFault : GoodIn wsX4_refuseCell wsX8_ofFault := goodIn_r _ [17, 18, 19] (by decide +kernel) (by decide +kernel)
set_option maxRecDepth 20000 in
theorem gX4_refuseCell_X8_ofFault : GoodIn wsX4_refuseCell (va_wsS RX4 244 yX8_ofFault wsX8_ofFault) := goodIn_app (goodIn_of _ (by decide +kernel)) ggX4_refuseCell_X8_ofFault
theorem dX4_refuseCell_0 : decode cX4_refuseCell 0 = .ok (.aload_n 0, 1) := by decide +kernel
theorem dX4_refuseCell_1 : decode cX4_refuseCell 1 = .ok (.getfield 36, 3) := by decide +kernel
theorem dX4_refuseCell_4 : decode cX4_refuseCell 4 = .ok (.iload_n 1, 1) := by decide +kernel
theorem dX4_refuseCell_5 : decode cX4_refuseCell 5 = .ok (.iconst 0, 1) := by decide +kernel
theorem dX4_refuseCell_6 : decode cX4_refuseCell 6 = .ok (.invokevirtual 175, 3) := by decide +kernel
theorem dX4_refuseCell_9 : decode cX4_refuseCell 9 = .ok (.lstore 4, 2) := by decide +kernel
theorem dX4_refuseCell_11 : decode cX4_refuseCell 11 = .ok (.aload_n 0, 1) := by decide +kernel
theorem dX4_refuseCell_12 : decode cX4_refuseCell 12 = .ok (.getfield 36, 3) := by decide +kernel
theorem dX4_refuseCell_15 : decode cX4_refuseCell 15 = .ok (.iload_n 1, 1) := by decide +kernel
theorem dX4_refuseCell_16 : decode cX4_refuseCell 16 = .ok (.iconst 1, 1) := by decide +kernel
theorem dX4_refuseCell_17 : decode cX4_refuseCell 17 = .ok (.invokevirtual 175, 3) := by decide +kernel
theorem dX4_refuseCell_20 : decode cX4_refuseCell 20 = .ok (.lstore 6, 2) := by decide +kernel
theorem dX4_refuseCell_22 : decode cX4_refuseCell 22 = .ok (.iload_n 2, 1) := by decide +kernel
theorem dX4_refuseCell_23 : decode cX4_refuseCell 23 = .ok (.lload 4, 2) := by decide +kernel
theorem dX4_refuseCell_25 : decode cX4_refuseCell 25 = .ok (.iconst 2, 1) := by decide +kernel
theorem dX4_refuseCell_26 : decode cX4_refuseCell 26 = .ok (.lload 6, 2) := by decide +kernel
theorem dX4_refuseCell_28 : decode cX4_refuseCell 28 = .ok (.iconst 1, 1) := by decide +kernel
theorem dX4_refuseCell_29 : decode cX4_refuseCell 29 = .ok (.invokestatic 293, 3) := by decide +kernel
theorem dX4_refuseCell_32 : decode cX4_refuseCell 32 = .ok (.lstore 8, 2) := by decide +kernel
theorem dX4_refuseCell_34 : decode cX4_refuseCell 34 = .ok (.lload 8, 2) := by decide +kernel
theorem dX4_refuseCell_36 : decode cX4_refuseCell 36 = .ok (.lconst 0, 1) := by decide +kernel
theorem dX4_refuseCell_37 : decode cX4_refuseCell 37 = .ok (.lcmp, 1) := by decide +kernel
theorem dX4_refuseCell_38 : decode cX4_refuseCell 38 = .ok (.ifCond .ne 14, 3) := by decide +kernel
theorem dX4_refuseCell_41 : decode cX4_refuseCell 41 = .ok (.iload_n 3, 1) := by decide +kernel
theorem dX4_refuseCell_42 : decode cX4_refuseCell 42 = .ok (.iconst (-1), 1) := by decide +kernel
theorem dX4_refuseCell_43 : decode cX4_refuseCell 43 = .ok (.if_icmp .ne 9, 3) := by decide +kernel
theorem dX4_refuseCell_46 : decode cX4_refuseCell 46 = .ok (.iconst 2, 1) := by decide +kernel
theorem dX4_refuseCell_47 : decode cX4_refuseCell 47 = .ok (.iload_n 2, 1) := by decide +kernel
theorem dX4_refuseCell_48 : decode cX4_refuseCell 48 = .ok (.invokestatic 244, 3) := by decide +kernel
theorem dX4_refuseCell_51 : decode cX4_refuseCell 51 = .ok (.lreturn, 1) := by decide +kernel
theorem dX4_refuseCell_52 : decode cX4_refuseCell 52 = .ok (.lload 8, 2) := by decide +kernel
theorem dX4_refuseCell_54 : decode cX4_refuseCell 54 = .ok (.lreturn, 1) := by decide +kernel
set_option maxRecDepth 20000 in
theorem ggX4_placeAsked_X1_cameTo : GoodIn wsX4_placeAsked wsX1_cameTo := goodIn_r _ [7, 8, 39, 40, 41, 42, 43, 44, 45, 46] (by decide +kernel) (by decide +kernel)
set_option maxRecDepth 20000 in
theorem gX4_placeAsked_X1_cameTo : GoodIn wsX4_placeAsked (wsV RX4 175 RX1 yX1_cameTo wsX1_cameTo) := goodIn_app (goodIn_of _ (by decide +kernel)) ggX4_placeAsked_X1_cameTo
set_option maxRecDepth 20000 in
theorem ggX4_placeAsked_X8_contentOf : GoodIn wsX4_placeAsked wsX8_contentOf := goodIn_r _ [12] (by decide +kernel) (by decide +kernel)
set_option maxRecDepth 20000 in
theorem gX4_placeAsked_X8_contentOf : GoodIn wsX4_placeAsked (va_wsS RX4 111 yX8_contentOf wsX8_contentOf) := goodIn_app (goodIn_of _ (by decide +kernel)) ggX4_placeAsked_X8_contentOf
set_option maxRecDepth 20000 in
theorem ggX4_placeAsked_X6_placeIn : GoodIn wsX4_placeAsked wsX6_placeIn := goodIn_r _ [17, 18, 19, 20, 21, 16, 22, 23, 24, 47, 48, 49, 50, 51, 52, 53, 54, 55, 56] (by decide +kernel) (by decide +kernel)
set_option maxRecDepth 20000 in
theorem gX4_placeAsked_X6_placeIn : GoodIn wsX4_placeAsked (wsV RX4 297 RX6 yX6_placeIn wsX6_placeIn) := goodIn_app (goodIn_of _ (by decide +kernel)) ggX4_placeAsked_X6_placeIn
theorem dX4_placeAsked_0 : decode cX4_placeAsked 0 = .ok (.aload_n 0, 1) := by decide +kernel
theorem dX4_placeAsked_1 : decode cX4_placeAsked 1 = .ok (.getfield 36, 3) := by decide +kernel
theorem dX4_placeAsked_4 : decode cX4_placeAsked 4 = .ok (.iload_n 1, 1) := by decide +kernel
theorem dX4_placeAsked_5 : decode cX4_placeAsked 5 = .ok (.iconst 0, 1) := by decide +kernel
theorem dX4_placeAsked_6 : decode cX4_placeAsked 6 = .ok (.invokevirtual 175, 3) := by decide +kernel
theorem dX4_placeAsked_9 : decode cX4_placeAsked 9 = .ok (.invokestatic 111, 3) := by decide +kernel
theorem dX4_placeAsked_12 : decode cX4_placeAsked 12 = .ok (.istore_n 2, 1) := by decide +kernel
theorem dX4_placeAsked_13 : decode cX4_placeAsked 13 = .ok (.aload_n 0, 1) := by decide +kernel
theorem dX4_placeAsked_14 : decode cX4_placeAsked 14 = .ok (.getfield 12, 3) := by decide +kernel
theorem dX4_placeAsked_17 : decode cX4_placeAsked 17 = .ok (.iload_n 2, 1) := by decide +kernel
theorem dX4_placeAsked_18 : decode cX4_placeAsked 18 = .ok (.aload_n 0, 1) := by decide +kernel
theorem dX4_placeAsked_19 : decode cX4_placeAsked 19 = .ok (.getfield 36, 3) := by decide +kernel
theorem dX4_placeAsked_22 : decode cX4_placeAsked 22 = .ok (.iload_n 1, 1) := by decide +kernel
theorem dX4_placeAsked_23 : decode cX4_placeAsked 23 = .ok (.iconst 1, 1) := by decide +kernel
theorem dX4_placeAsked_24 : decode cX4_placeAsked 24 = .ok (.invokevirtual 175, 3) := by decide +kernel
theorem dX4_placeAsked_27 : decode cX4_placeAsked 27 = .ok (.invokestatic 111, 3) := by decide +kernel
theorem dX4_placeAsked_30 : decode cX4_placeAsked 30 = .ok (.invokevirtual 297, 3) := by decide +kernel
theorem dX4_placeAsked_33 : decode cX4_placeAsked 33 = .ok (.ireturn, 1) := by decide +kernel
set_option maxRecDepth 20000 in
theorem ggX4_goEnd_X4_clashAt : GoodIn wsX4_goEnd wsX4_clashAt := goodIn_r _ [9, 10, 11, 12, 13, 14, 15, 16, 17, 18, 19, 20, 21, 22, 23, 24, 25] (by decide +kernel) (by decide +kernel)
set_option maxRecDepth 20000 in
theorem gX4_goEnd_X4_clashAt : GoodIn wsX4_goEnd (wsV RX4 287 RX4 yX4_clashAt wsX4_clashAt) := goodIn_app (goodIn_of _ (by decide +kernel)) ggX4_goEnd_X4_clashAt
theorem dX4_goEnd_0 : decode cX4_goEnd 0 = .ok (.aload_n 0, 1) := by decide +kernel
theorem dX4_goEnd_1 : decode cX4_goEnd 1 = .ok (.getfield 47, 3) := by decide +kernel
theorem dX4_goEnd_4 : decode cX4_goEnd 4 = .ok (.getfield 186, 3) := by decide +kernel
theorem dX4_goEnd_7 : decode cX4_goEnd 7 = .ok (.iload_n 1, 1) := by decide +kernel
theorem dX4_goEnd_8 : decode cX4_goEnd 8 = .ok (.iaload, 1) := by decide +kernel
theorem dX4_goEnd_9 : decode cX4_goEnd 9 = .ok (.istore 5, 2) := by decide +kernel
theorem dX4_goEnd_11 : decode cX4_goEnd 11 = .ok (.iload_n 2, 1) := by decide +kernel
theorem dX4_goEnd_12 : decode cX4_goEnd 12 = .ok (.ifCond .eq 16, 3) := by decide +kernel
theorem dX4_goEnd_15 : decode cX4_goEnd 15 = .ok (.aload_n 0, 1) := by decide +kernel
theorem dX4_goEnd_16 : decode cX4_goEnd 16 = .ok (.dup, 1) := by decide +kernel
theorem dX4_goEnd_17 : decode cX4_goEnd 17 = .ok (.getfield 96, 3) := by decide +kernel
theorem dX4_goEnd_20 : decode cX4_goEnd 20 = .ok (.iconst 1, 1) := by decide +kernel
theorem dX4_goEnd_21 : decode cX4_goEnd 21 = .ok (.iadd, 1) := by decide +kernel
theorem dX4_goEnd_22 : decode cX4_goEnd 22 = .ok (.putfield 96, 3) := by decide +kernel
theorem dX4_goEnd_25 : decode cX4_goEnd 25 = .ok (.goto 31, 3) := by decide +kernel
theorem dX4_goEnd_28 : decode cX4_goEnd 28 = .ok (.aload_n 0, 1) := by decide +kernel
theorem dX4_goEnd_29 : decode cX4_goEnd 29 = .ok (.getfield 22, 3) := by decide +kernel
theorem dX4_goEnd_32 : decode cX4_goEnd 32 = .ok (.iload 5, 2) := by decide +kernel
theorem dX4_goEnd_34 : decode cX4_goEnd 34 = .ok (.laload, 1) := by decide +kernel
theorem dX4_goEnd_35 : decode cX4_goEnd 35 = .ok (.lconst 0, 1) := by decide +kernel
theorem dX4_goEnd_36 : decode cX4_goEnd 36 = .ok (.lcmp, 1) := by decide +kernel
theorem dX4_goEnd_37 : decode cX4_goEnd 37 = .ok (.ifCond .eq 11, 3) := by decide +kernel
theorem dX4_goEnd_40 : decode cX4_goEnd 40 = .ok (.aload_n 0, 1) := by decide +kernel
theorem dX4_goEnd_41 : decode cX4_goEnd 41 = .ok (.iload_n 1, 1) := by decide +kernel
theorem dX4_goEnd_42 : decode cX4_goEnd 42 = .ok (.invokevirtual 287, 3) := by decide +kernel
theorem dX4_goEnd_45 : decode cX4_goEnd 45 = .ok (.goto 11, 3) := by decide +kernel
theorem dX4_goEnd_48 : decode cX4_goEnd 48 = .ok (.aload_n 0, 1) := by decide +kernel
theorem dX4_goEnd_49 : decode cX4_goEnd 49 = .ok (.getfield 22, 3) := by decide +kernel
theorem dX4_goEnd_52 : decode cX4_goEnd 52 = .ok (.iload 5, 2) := by decide +kernel
theorem dX4_goEnd_54 : decode cX4_goEnd 54 = .ok (.lload_n 3, 1) := by decide +kernel
theorem dX4_goEnd_55 : decode cX4_goEnd 55 = .ok (.lastore, 1) := by decide +kernel
theorem dX4_goEnd_56 : decode cX4_goEnd 56 = .ok (.return_, 1) := by decide +kernel
theorem dX4_clashAt_0 : decode cX4_clashAt 0 = .ok (.aload_n 0, 1) := by decide +kernel
theorem dX4_clashAt_1 : decode cX4_clashAt 1 = .ok (.iconst 1, 1) := by decide +kernel
theorem dX4_clashAt_2 : decode cX4_clashAt 2 = .ok (.putfield 78, 3) := by decide +kernel
theorem dX4_clashAt_5 : decode cX4_clashAt 5 = .ok (.aload_n 0, 1) := by decide +kernel
theorem dX4_clashAt_6 : decode cX4_clashAt 6 = .ok (.iload_n 1, 1) := by decide +kernel
theorem dX4_clashAt_7 : decode cX4_clashAt 7 = .ok (.putfield 102, 3) := by decide +kernel
theorem dX4_clashAt_10 : decode cX4_clashAt 10 = .ok (.return_, 1) := by decide +kernel
set_option maxRecDepth 20000 in
theorem ggX4_giveInside_X4_give : GoodIn wsX4_giveInside wsX4_give := goodIn_r _ [6, 7, 1, 8, 9, 10, 11, 12, 13, 14, 15, 16, 17, 18, 19, 5, 20, 21, 22, 23, 24, 25, 26, 27, 28, 29, 30, 31, 32, 33, 34, 35, 36, 37, 38, 39, 40, 41, 42, 43, 44, 45, 46, 47, 48, 49, 50, 51, 52, 53, 54, 55, 56, 57, 58, 59, 60, 61, 62, 63, 64, 65, 66, 67, 68, 69, 70, 71, 72, 73, 74, 75, 76, 77, 78, 79, 80, 81, 82, 83, 84, 85, 86, 87, 88, 89, 90, 91, 92, 93, 94, 95, 96, 97, 98, 99, 100] (by decide +kernel) (by decide +kernel)
set_option maxRecDepth 20000 in
theorem gX4_giveInside_X4_give : GoodIn wsX4_giveInside (wsV RX4 223 RX4 yX4_give wsX4_give) := goodIn_app (goodIn_of _ (by decide +kernel)) ggX4_giveInside_X4_give
theorem dX4_giveInside_0 : decode cX4_giveInside 0 = .ok (.iload_n 2, 1) := by decide +kernel
theorem dX4_giveInside_1 : decode cX4_giveInside 1 = .ok (.iconst (-1), 1) := by decide +kernel
theorem dX4_giveInside_2 : decode cX4_giveInside 2 = .ok (.if_icmp .ne 11, 3) := by decide +kernel
theorem dX4_giveInside_5 : decode cX4_giveInside 5 = .ok (.aload_n 0, 1) := by decide +kernel
theorem dX4_giveInside_6 : decode cX4_giveInside 6 = .ok (.iconst 2, 1) := by decide +kernel
theorem dX4_giveInside_7 : decode cX4_giveInside 7 = .ok (.putfield 78, 3) := by decide +kernel
theorem dX4_giveInside_10 : decode cX4_giveInside 10 = .ok (.goto 11, 3) := by decide +kernel
theorem dX4_giveInside_13 : decode cX4_giveInside 13 = .ok (.aload_n 0, 1) := by decide +kernel
theorem dX4_giveInside_14 : decode cX4_giveInside 14 = .ok (.iload_n 1, 1) := by decide +kernel
theorem dX4_giveInside_15 : decode cX4_giveInside 15 = .ok (.iconst 0, 1) := by decide +kernel
theorem dX4_giveInside_16 : decode cX4_giveInside 16 = .ok (.iload_n 2, 1) := by decide +kernel
theorem dX4_giveInside_17 : decode cX4_giveInside 17 = .ok (.lload_n 3, 1) := by decide +kernel
theorem dX4_giveInside_18 : decode cX4_giveInside 18 = .ok (.invokevirtual 223, 3) := by decide +kernel
theorem dX4_giveInside_21 : decode cX4_giveInside 21 = .ok (.return_, 1) := by decide +kernel
set_option maxRecDepth 20000 in
theorem ggX4_give_X2_firstWayOf : GoodIn wsX4_give wsX2_firstWayOf := goodIn_r _ [10, 11, 71, 72, 73, 74, 75, 76, 77, 78, 79, 80, 81, 82, 83, 84, 85] (by decide +kernel) (by decide +kernel)
set_option maxRecDepth 20000 in
theorem gX4_give_X2_firstWayOf : GoodIn wsX4_give (wsV RX4 300 RX2 yX2_firstWayOf wsX2_firstWayOf) := goodIn_app (goodIn_of _ (by decide +kernel)) ggX4_give_X2_firstWayOf
set_option maxRecDepth 20000 in
theorem ggX4_give_X4_arrive : GoodIn wsX4_give wsX4_arrive := goodIn_r _ [16, 17, 2, 1, 18, 19, 20, 21, 22, 23, 24, 25, 26, 27, 28, 29, 30, 31, 32, 33, 34, 35, 36, 37, 38, 39, 40, 41, 15, 42, 43, 44, 45, 46, 47, 48, 49, 50, 51, 52, 53, 54, 55, 56, 57, 58, 59, 60, 61, 62, 63, 64, 65, 66, 67, 68, 69, 70, 71, 72, 73, 74, 75, 76, 77, 78, 79, 80, 81, 82, 83, 84, 85, 86, 87, 88, 89, 90, 91, 92, 93, 94, 95, 96] (by decide +kernel) (by decide +kernel)
set_option maxRecDepth 20000 in
theorem gX4_give_X4_arrive : GoodIn wsX4_give (wsV RX4 160 RX4 yX4_arrive wsX4_arrive) := goodIn_app (goodIn_of _ (by decide +kernel)) ggX4_give_X4_arrive
theorem dX4_give_0 : decode cX4_give 0 = .ok (.aload_n 0, 1) := by decide +kernel
theorem dX4_give_1 : decode cX4_give 1 = .ok (.getfield 47, 3) := by decide +kernel
theorem dX4_give_4 : decode cX4_give 4 = .ok (.iload_n 1, 1) := by decide +kernel
theorem dX4_give_5 : decode cX4_give 5 = .ok (.iload_n 2, 1) := by decide +kernel
theorem dX4_give_6 : decode cX4_give 6 = .ok (.invokevirtual 300, 3) := by decide +kernel
theorem dX4_give_9 : decode cX4_give 9 = .ok (.istore 6, 2) := by decide +kernel
theorem dX4_give_11 : decode cX4_give 11 = .ok (.iconst 0, 1) := by decide +kernel
theorem dX4_give_12 : decode cX4_give 12 = .ok (.istore 7, 2) := by decide +kernel
theorem dX4_give_14 : decode cX4_give 14 = .ok (.iload 7, 2) := by decide +kernel
theorem dX4_give_16 : decode cX4_give 16 = .ok (.sipush 300, 3) := by decide +kernel
theorem dX4_give_19 : decode cX4_give 19 = .ok (.if_icmp .ge 62, 3) := by decide +kernel
theorem dX4_give_22 : decode cX4_give 22 = .ok (.iload 6, 2) := by decide +kernel
theorem dX4_give_24 : decode cX4_give 24 = .ok (.iconst (-1), 1) := by decide +kernel
theorem dX4_give_25 : decode cX4_give 25 = .ok (.if_icmp .eq 56, 3) := by decide +kernel
theorem dX4_give_28 : decode cX4_give 28 = .ok (.aload_n 0, 1) := by decide +kernel
theorem dX4_give_29 : decode cX4_give 29 = .ok (.getfield 78, 3) := by decide +kernel
theorem dX4_give_32 : decode cX4_give 32 = .ok (.iconst (-1), 1) := by decide +kernel
theorem dX4_give_33 : decode cX4_give 33 = .ok (.if_icmp .ne 48, 3) := by decide +kernel
theorem dX4_give_36 : decode cX4_give 36 = .ok (.aload_n 0, 1) := by decide +kernel
theorem dX4_give_37 : decode cX4_give 37 = .ok (.aload_n 0, 1) := by decide +kernel
theorem dX4_give_38 : decode cX4_give 38 = .ok (.getfield 47, 3) := by decide +kernel
theorem dX4_give_41 : decode cX4_give 41 = .ok (.getfield 303, 3) := by decide +kernel
theorem dX4_give_44 : decode cX4_give 44 = .ok (.iload 6, 2) := by decide +kernel
theorem dX4_give_46 : decode cX4_give 46 = .ok (.iaload, 1) := by decide +kernel
theorem dX4_give_47 : decode cX4_give 47 = .ok (.aload_n 0, 1) := by decide +kernel
theorem dX4_give_48 : decode cX4_give 48 = .ok (.getfield 47, 3) := by decide +kernel
theorem dX4_give_51 : decode cX4_give 51 = .ok (.getfield 306, 3) := by decide +kernel
theorem dX4_give_54 : decode cX4_give 54 = .ok (.iload 6, 2) := by decide +kernel
theorem dX4_give_56 : decode cX4_give 56 = .ok (.iaload, 1) := by decide +kernel
theorem dX4_give_57 : decode cX4_give 57 = .ok (.iload_n 3, 1) := by decide +kernel
theorem dX4_give_58 : decode cX4_give 58 = .ok (.lload 4, 2) := by decide +kernel
theorem dX4_give_60 : decode cX4_give 60 = .ok (.invokevirtual 160, 3) := by decide +kernel
theorem dX4_give_63 : decode cX4_give 63 = .ok (.aload_n 0, 1) := by decide +kernel
theorem dX4_give_64 : decode cX4_give 64 = .ok (.getfield 47, 3) := by decide +kernel
theorem dX4_give_67 : decode cX4_give 67 = .ok (.getfield 309, 3) := by decide +kernel
theorem dX4_give_70 : decode cX4_give 70 = .ok (.iload 6, 2) := by decide +kernel
theorem dX4_give_72 : decode cX4_give 72 = .ok (.iaload, 1) := by decide +kernel
theorem dX4_give_73 : decode cX4_give 73 = .ok (.istore 6, 2) := by decide +kernel
theorem dX4_give_75 : decode cX4_give 75 = .ok (.iinc 7 1, 3) := by decide +kernel
theorem dX4_give_78 : decode cX4_give 78 = .ok (.goto (-64), 3) := by decide +kernel
theorem dX4_give_81 : decode cX4_give 81 = .ok (.return_, 1) := by decide +kernel
set_option maxRecDepth 20000 in
theorem ggX4_arrive_X1_find : GoodIn wsX4_arrive wsX1_find := goodIn_r _ [10, 11, 12, 13, 73, 74, 75, 76, 77, 78, 79, 80] (by decide +kernel) (by decide +kernel)
set_option maxRecDepth 20000 in
theorem gX4_arrive_X1_find : GoodIn wsX4_arrive (wsV RX4 312 RX1 yX1_find wsX1_find) := goodIn_app (goodIn_of _ (by decide +kernel)) ggX4_arrive_X1_find
set_option maxRecDepth 20000 in
theorem ggX4_arrive_X1_add : GoodIn wsX4_arrive wsX1_add := goodIn_r _ [17, 18, 12, 19, 20, 13, 11, 73, 74, 75, 76, 77, 78, 79, 80] (by decide +kernel) (by decide +kernel)
set_option maxRecDepth 20000 in
theorem gX4_arrive_X1_add : GoodIn wsX4_arrive (wsV RX4 315 RX1 yX1_add wsX1_add) := goodIn_app (goodIn_of _ (by decide +kernel)) ggX4_arrive_X1_add
set_option maxRecDepth 20000 in
theorem ggX4_arrive_X1_hadToken : GoodIn wsX4_arrive wsX1_hadToken := goodIn_r _ [24, 20, 73, 74, 75, 76, 77, 78, 79, 80] (by decide +kernel) (by decide +kernel)
set_option maxRecDepth 20000 in
theorem gX4_arrive_X1_hadToken : GoodIn wsX4_arrive (wsV RX4 318 RX1 yX1_hadToken wsX1_hadToken) := goodIn_app (goodIn_of _ (by decide +kernel)) ggX4_arrive_X1_hadToken
set_option maxRecDepth 20000 in
theorem ggX4_arrive_X4_clashAt : GoodIn wsX4_arrive wsX4_clashAt := goodIn_r _ [29, 2, 30, 44, 45, 46, 47, 48, 49, 50, 51, 52, 53, 54, 55, 56, 57] (by decide +kernel) (by decide +kernel)
set_option maxRecDepth 20000 in
theorem gX4_arrive_X4_clashAt : GoodIn wsX4_arrive (wsV RX4 287 RX4 yX4_clashAt wsX4_clashAt) := goodIn_app (goodIn_of _ (by decide +kernel)) ggX4_arrive_X4_clashAt
set_option maxRecDepth 20000 in
theorem ggX4_arrive_X1_put : GoodIn wsX4_arrive wsX1_put := goodIn_r _ [34, 20, 35, 36, 73, 74, 75, 76, 77, 78, 79, 80] (by decide +kernel) (by decide +kernel)
set_option maxRecDepth 20000 in
theorem gX4_arrive_X1_put : GoodIn wsX4_arrive (wsV RX4 321 RX1 yX1_put wsX1_put) := goodIn_app (goodIn_of _ (by decide +kernel)) ggX4_arrive_X1_put
set_option maxRecDepth 20000 in
theorem ggX4_arrive_X5_add : GoodIn wsX4_arrive wsX5_add := goodIn_r _ [41, 42, 43, 81, 82, 83] (by decide +kernel) (by decide +kernel)
set_option maxRecDepth 20000 in
theorem gX4_arrive_X5_add : GoodIn wsX4_arrive (wsV RX4 325 RX5 yX5_add wsX5_add) := goodIn_app (goodIn_of _ (by decide +kernel)) ggX4_arrive_X5_add
theorem dX4_arrive_0 : decode cX4_arrive 0 = .ok (.aload_n 0, 1) := by decide +kernel
theorem dX4_arrive_1 : decode cX4_arrive 1 = .ok (.getfield 36, 3) := by decide +kernel
theorem dX4_arrive_4 : decode cX4_arrive 4 = .ok (.iload_n 1, 1) := by decide +kernel
theorem dX4_arrive_5 : decode cX4_arrive 5 = .ok (.iload_n 3, 1) := by decide +kernel
theorem dX4_arrive_6 : decode cX4_arrive 6 = .ok (.invokevirtual 312, 3) := by decide +kernel
theorem dX4_arrive_9 : decode cX4_arrive 9 = .ok (.istore 6, 2) := by decide +kernel
theorem dX4_arrive_11 : decode cX4_arrive 11 = .ok (.iload 6, 2) := by decide +kernel
theorem dX4_arrive_13 : decode cX4_arrive 13 = .ok (.iconst (-1), 1) := by decide +kernel
theorem dX4_arrive_14 : decode cX4_arrive 14 = .ok (.if_icmp .ne 14, 3) := by decide +kernel
theorem dX4_arrive_17 : decode cX4_arrive 17 = .ok (.aload_n 0, 1) := by decide +kernel
theorem dX4_arrive_18 : decode cX4_arrive 18 = .ok (.getfield 36, 3) := by decide +kernel
theorem dX4_arrive_21 : decode cX4_arrive 21 = .ok (.iload_n 1, 1) := by decide +kernel
theorem dX4_arrive_22 : decode cX4_arrive 22 = .ok (.iload_n 3, 1) := by decide +kernel
theorem dX4_arrive_23 : decode cX4_arrive 23 = .ok (.invokevirtual 315, 3) := by decide +kernel
theorem dX4_arrive_26 : decode cX4_arrive 26 = .ok (.istore 6, 2) := by decide +kernel
theorem dX4_arrive_28 : decode cX4_arrive 28 = .ok (.iload 6, 2) := by decide +kernel
theorem dX4_arrive_30 : decode cX4_arrive 30 = .ok (.iconst (-1), 1) := by decide +kernel
theorem dX4_arrive_31 : decode cX4_arrive 31 = .ok (.if_icmp .ne 11, 3) := by decide +kernel
theorem dX4_arrive_34 : decode cX4_arrive 34 = .ok (.aload_n 0, 1) := by decide +kernel
theorem dX4_arrive_35 : decode cX4_arrive 35 = .ok (.iconst 2, 1) := by decide +kernel
theorem dX4_arrive_36 : decode cX4_arrive 36 = .ok (.putfield 78, 3) := by decide +kernel
theorem dX4_arrive_39 : decode cX4_arrive 39 = .ok (.goto 57, 3) := by decide +kernel
theorem dX4_arrive_42 : decode cX4_arrive 42 = .ok (.aload_n 0, 1) := by decide +kernel
theorem dX4_arrive_43 : decode cX4_arrive 43 = .ok (.getfield 36, 3) := by decide +kernel
theorem dX4_arrive_46 : decode cX4_arrive 46 = .ok (.iload 6, 2) := by decide +kernel
theorem dX4_arrive_48 : decode cX4_arrive 48 = .ok (.iload_n 2, 1) := by decide +kernel
theorem dX4_arrive_49 : decode cX4_arrive 49 = .ok (.invokevirtual 318, 3) := by decide +kernel
theorem dX4_arrive_52 : decode cX4_arrive 52 = .ok (.ifCond .eq 11, 3) := by decide +kernel
theorem dX4_arrive_55 : decode cX4_arrive 55 = .ok (.aload_n 0, 1) := by decide +kernel
theorem dX4_arrive_56 : decode cX4_arrive 56 = .ok (.iload_n 1, 1) := by decide +kernel
theorem dX4_arrive_57 : decode cX4_arrive 57 = .ok (.invokevirtual 287, 3) := by decide +kernel
theorem dX4_arrive_60 : decode cX4_arrive 60 = .ok (.goto 36, 3) := by decide +kernel
theorem dX4_arrive_63 : decode cX4_arrive 63 = .ok (.aload_n 0, 1) := by decide +kernel
theorem dX4_arrive_64 : decode cX4_arrive 64 = .ok (.getfield 36, 3) := by decide +kernel
theorem dX4_arrive_67 : decode cX4_arrive 67 = .ok (.iload 6, 2) := by decide +kernel
theorem dX4_arrive_69 : decode cX4_arrive 69 = .ok (.iload_n 2, 1) := by decide +kernel
theorem dX4_arrive_70 : decode cX4_arrive 70 = .ok (.lload 4, 2) := by decide +kernel
theorem dX4_arrive_72 : decode cX4_arrive 72 = .ok (.aload_n 0, 1) := by decide +kernel
theorem dX4_arrive_73 : decode cX4_arrive 73 = .ok (.getfield 47, 3) := by decide +kernel
theorem dX4_arrive_76 : decode cX4_arrive 76 = .ok (.getfield 258, 3) := by decide +kernel
theorem dX4_arrive_79 : decode cX4_arrive 79 = .ok (.iload_n 1, 1) := by decide +kernel
theorem dX4_arrive_80 : decode cX4_arrive 80 = .ok (.iaload, 1) := by decide +kernel
theorem dX4_arrive_81 : decode cX4_arrive 81 = .ok (.invokevirtual 321, 3) := by decide +kernel
theorem dX4_arrive_84 : decode cX4_arrive 84 = .ok (.ifCond .eq 12, 3) := by decide +kernel
theorem dX4_arrive_87 : decode cX4_arrive 87 = .ok (.aload_n 0, 1) := by decide +kernel
theorem dX4_arrive_88 : decode cX4_arrive 88 = .ok (.getfield 43, 3) := by decide +kernel
theorem dX4_arrive_91 : decode cX4_arrive 91 = .ok (.iload 6, 2) := by decide +kernel
theorem dX4_arrive_93 : decode cX4_arrive 93 = .ok (.invokevirtual 325, 3) := by decide +kernel
theorem dX4_arrive_96 : decode cX4_arrive 96 = .ok (.return_, 1) := by decide +kernel
theorem dX5_init_0 : decode cX5_init 0 = .ok (.aload_n 0, 1) := by decide +kernel
theorem dX5_init_1 : decode cX5_init 1 = .ok (.invokespecial 3, 3) := by decide +kernel
theorem dX5_init_4 : decode cX5_init 4 = .ok (.aload_n 0, 1) := by decide +kernel
theorem dX5_init_5 : decode cX5_init 5 = .ok (.sipush 3000, 3) := by decide +kernel
theorem dX5_init_8 : decode cX5_init 8 = .ok (.newarray .int, 2) := by decide +kernel
theorem dX5_init_10 : decode cX5_init 10 = .ok (.putfield 9, 3) := by decide +kernel
theorem dX5_init_13 : decode cX5_init 13 = .ok (.return_, 1) := by decide +kernel
theorem dX5_reset_0 : decode cX5_reset 0 = .ok (.aload_n 0, 1) := by decide +kernel
theorem dX5_reset_1 : decode cX5_reset 1 = .ok (.iconst 0, 1) := by decide +kernel
theorem dX5_reset_2 : decode cX5_reset 2 = .ok (.putfield 15, 3) := by decide +kernel
theorem dX5_reset_5 : decode cX5_reset 5 = .ok (.aload_n 0, 1) := by decide +kernel
theorem dX5_reset_6 : decode cX5_reset 6 = .ok (.iconst 0, 1) := by decide +kernel
theorem dX5_reset_7 : decode cX5_reset 7 = .ok (.putfield 19, 3) := by decide +kernel
theorem dX5_reset_10 : decode cX5_reset 10 = .ok (.return_, 1) := by decide +kernel
theorem dX5_size_0 : decode cX5_size 0 = .ok (.aload_n 0, 1) := by decide +kernel
theorem dX5_size_1 : decode cX5_size 1 = .ok (.getfield 19, 3) := by decide +kernel
theorem dX5_size_4 : decode cX5_size 4 = .ok (.aload_n 0, 1) := by decide +kernel
theorem dX5_size_5 : decode cX5_size 5 = .ok (.getfield 15, 3) := by decide +kernel
theorem dX5_size_8 : decode cX5_size 8 = .ok (.isub, 1) := by decide +kernel
theorem dX5_size_9 : decode cX5_size 9 = .ok (.ireturn, 1) := by decide +kernel
theorem dX5_add_0 : decode cX5_add 0 = .ok (.aload_n 0, 1) := by decide +kernel
theorem dX5_add_1 : decode cX5_add 1 = .ok (.getfield 19, 3) := by decide +kernel
theorem dX5_add_4 : decode cX5_add 4 = .ok (.sipush 3000, 3) := by decide +kernel
theorem dX5_add_7 : decode cX5_add 7 = .ok (.if_icmp .ge 23, 3) := by decide +kernel
theorem dX5_add_10 : decode cX5_add 10 = .ok (.aload_n 0, 1) := by decide +kernel
theorem dX5_add_11 : decode cX5_add 11 = .ok (.getfield 9, 3) := by decide +kernel
theorem dX5_add_14 : decode cX5_add 14 = .ok (.aload_n 0, 1) := by decide +kernel
theorem dX5_add_15 : decode cX5_add 15 = .ok (.getfield 19, 3) := by decide +kernel
theorem dX5_add_18 : decode cX5_add 18 = .ok (.iload_n 1, 1) := by decide +kernel
theorem dX5_add_19 : decode cX5_add 19 = .ok (.iastore, 1) := by decide +kernel
theorem dX5_add_20 : decode cX5_add 20 = .ok (.aload_n 0, 1) := by decide +kernel
theorem dX5_add_21 : decode cX5_add 21 = .ok (.dup, 1) := by decide +kernel
theorem dX5_add_22 : decode cX5_add 22 = .ok (.getfield 19, 3) := by decide +kernel
theorem dX5_add_25 : decode cX5_add 25 = .ok (.iconst 1, 1) := by decide +kernel
theorem dX5_add_26 : decode cX5_add 26 = .ok (.iadd, 1) := by decide +kernel
theorem dX5_add_27 : decode cX5_add 27 = .ok (.putfield 19, 3) := by decide +kernel
theorem dX5_add_30 : decode cX5_add 30 = .ok (.return_, 1) := by decide +kernel
set_option maxRecDepth 20000 in
theorem ggX5_take_X5_size : GoodIn wsX5_take wsX5_size := goodIn_r _ [12, 3, 1, 13, 14, 15] (by decide +kernel) (by decide +kernel)
set_option maxRecDepth 20000 in
theorem gX5_take_X5_size : GoodIn wsX5_take (wsV RX5 22 RX5 yX5_size wsX5_size) := goodIn_app (goodIn_of _ (by decide +kernel)) ggX5_take_X5_size
theorem dX5_take_0 : decode cX5_take 0 = .ok (.iload_n 1, 1) := by decide +kernel
theorem dX5_take_1 : decode cX5_take 1 = .ok (.ifCond .lt 11, 3) := by decide +kernel
theorem dX5_take_4 : decode cX5_take 4 = .ok (.iload_n 1, 1) := by decide +kernel
theorem dX5_take_5 : decode cX5_take 5 = .ok (.aload_n 0, 1) := by decide +kernel
theorem dX5_take_6 : decode cX5_take 6 = .ok (.invokevirtual 22, 3) := by decide +kernel
theorem dX5_take_9 : decode cX5_take 9 = .ok (.if_icmp .lt 5, 3) := by decide +kernel
theorem dX5_take_12 : decode cX5_take 12 = .ok (.iconst (-1), 1) := by decide +kernel
theorem dX5_take_13 : decode cX5_take 13 = .ok (.ireturn, 1) := by decide +kernel
theorem dX5_take_14 : decode cX5_take 14 = .ok (.aload_n 0, 1) := by decide +kernel
theorem dX5_take_15 : decode cX5_take 15 = .ok (.getfield 15, 3) := by decide +kernel
theorem dX5_take_18 : decode cX5_take 18 = .ok (.iload_n 1, 1) := by decide +kernel
theorem dX5_take_19 : decode cX5_take 19 = .ok (.iadd, 1) := by decide +kernel
theorem dX5_take_20 : decode cX5_take 20 = .ok (.istore_n 2, 1) := by decide +kernel
theorem dX5_take_21 : decode cX5_take 21 = .ok (.aload_n 0, 1) := by decide +kernel
theorem dX5_take_22 : decode cX5_take 22 = .ok (.getfield 9, 3) := by decide +kernel
theorem dX5_take_25 : decode cX5_take 25 = .ok (.iload_n 2, 1) := by decide +kernel
theorem dX5_take_26 : decode cX5_take 26 = .ok (.iaload, 1) := by decide +kernel
theorem dX5_take_27 : decode cX5_take 27 = .ok (.istore_n 3, 1) := by decide +kernel
theorem dX5_take_28 : decode cX5_take 28 = .ok (.iload_n 1, 1) := by decide +kernel
theorem dX5_take_29 : decode cX5_take 29 = .ok (.ifCond .ne 16, 3) := by decide +kernel
theorem dX5_take_32 : decode cX5_take 32 = .ok (.aload_n 0, 1) := by decide +kernel
theorem dX5_take_33 : decode cX5_take 33 = .ok (.dup, 1) := by decide +kernel
theorem dX5_take_34 : decode cX5_take 34 = .ok (.getfield 15, 3) := by decide +kernel
theorem dX5_take_37 : decode cX5_take 37 = .ok (.iconst 1, 1) := by decide +kernel
theorem dX5_take_38 : decode cX5_take 38 = .ok (.iadd, 1) := by decide +kernel
theorem dX5_take_39 : decode cX5_take 39 = .ok (.putfield 15, 3) := by decide +kernel
theorem dX5_take_42 : decode cX5_take 42 = .ok (.goto 36, 3) := by decide +kernel
theorem dX5_take_45 : decode cX5_take 45 = .ok (.aload_n 0, 1) := by decide +kernel
theorem dX5_take_46 : decode cX5_take 46 = .ok (.getfield 9, 3) := by decide +kernel
theorem dX5_take_49 : decode cX5_take 49 = .ok (.iload_n 2, 1) := by decide +kernel
theorem dX5_take_50 : decode cX5_take 50 = .ok (.iconst 1, 1) := by decide +kernel
theorem dX5_take_51 : decode cX5_take 51 = .ok (.iadd, 1) := by decide +kernel
theorem dX5_take_52 : decode cX5_take 52 = .ok (.aload_n 0, 1) := by decide +kernel
theorem dX5_take_53 : decode cX5_take 53 = .ok (.getfield 9, 3) := by decide +kernel
theorem dX5_take_56 : decode cX5_take 56 = .ok (.iload_n 2, 1) := by decide +kernel
theorem dX5_take_57 : decode cX5_take 57 = .ok (.aload_n 0, 1) := by decide +kernel
theorem dX5_take_58 : decode cX5_take 58 = .ok (.getfield 19, 3) := by decide +kernel
theorem dX5_take_61 : decode cX5_take 61 = .ok (.iload_n 2, 1) := by decide +kernel
theorem dX5_take_62 : decode cX5_take 62 = .ok (.isub, 1) := by decide +kernel
theorem dX5_take_63 : decode cX5_take 63 = .ok (.iconst 1, 1) := by decide +kernel
theorem dX5_take_64 : decode cX5_take 64 = .ok (.isub, 1) := by decide +kernel
theorem dX5_take_65 : decode cX5_take 65 = .ok (.invokestatic 26, 3) := by decide +kernel
theorem dX5_take_68 : decode cX5_take 68 = .ok (.aload_n 0, 1) := by decide +kernel
theorem dX5_take_69 : decode cX5_take 69 = .ok (.dup, 1) := by decide +kernel
theorem dX5_take_70 : decode cX5_take 70 = .ok (.getfield 19, 3) := by decide +kernel
theorem dX5_take_73 : decode cX5_take 73 = .ok (.iconst 1, 1) := by decide +kernel
theorem dX5_take_74 : decode cX5_take 74 = .ok (.isub, 1) := by decide +kernel
theorem dX5_take_75 : decode cX5_take 75 = .ok (.putfield 19, 3) := by decide +kernel
theorem dX5_take_78 : decode cX5_take 78 = .ok (.iload_n 3, 1) := by decide +kernel
theorem dX5_take_79 : decode cX5_take 79 = .ok (.ireturn, 1) := by decide +kernel
theorem dX6_init_0 : decode cX6_init 0 = .ok (.aload_n 0, 1) := by decide +kernel
theorem dX6_init_1 : decode cX6_init 1 = .ok (.invokespecial 3, 3) := by decide +kernel
theorem dX6_init_4 : decode cX6_init 4 = .ok (.aload_n 0, 1) := by decide +kernel
theorem dX6_init_5 : decode cX6_init 5 = .ok (.bipush 80, 2) := by decide +kernel
theorem dX6_init_7 : decode cX6_init 7 = .ok (.newarray .int, 2) := by decide +kernel
theorem dX6_init_9 : decode cX6_init 9 = .ok (.putfield 9, 3) := by decide +kernel
theorem dX6_init_12 : decode cX6_init 12 = .ok (.aload_n 0, 1) := by decide +kernel
theorem dX6_init_13 : decode cX6_init 13 = .ok (.sipush 2000, 3) := by decide +kernel
theorem dX6_init_16 : decode cX6_init 16 = .ok (.newarray .long, 2) := by decide +kernel
theorem dX6_init_18 : decode cX6_init 18 = .ok (.putfield 15, 3) := by decide +kernel
theorem dX6_init_21 : decode cX6_init 21 = .ok (.aload_n 0, 1) := by decide +kernel
theorem dX6_init_22 : decode cX6_init 22 = .ok (.sipush 300, 3) := by decide +kernel
theorem dX6_init_25 : decode cX6_init 25 = .ok (.newarray .int, 2) := by decide +kernel
theorem dX6_init_27 : decode cX6_init 27 = .ok (.putfield 19, 3) := by decide +kernel
theorem dX6_init_30 : decode cX6_init 30 = .ok (.aload_n 0, 1) := by decide +kernel
theorem dX6_init_31 : decode cX6_init 31 = .ok (.sipush 300, 3) := by decide +kernel
theorem dX6_init_34 : decode cX6_init 34 = .ok (.newarray .int, 2) := by decide +kernel
theorem dX6_init_36 : decode cX6_init 36 = .ok (.putfield 22, 3) := by decide +kernel
theorem dX6_init_39 : decode cX6_init 39 = .ok (.aload_n 0, 1) := by decide +kernel
theorem dX6_init_40 : decode cX6_init 40 = .ok (.sipush 2000, 3) := by decide +kernel
theorem dX6_init_43 : decode cX6_init 43 = .ok (.newarray .int, 2) := by decide +kernel
theorem dX6_init_45 : decode cX6_init 45 = .ok (.putfield 25, 3) := by decide +kernel
theorem dX6_init_48 : decode cX6_init 48 = .ok (.aload_n 0, 1) := by decide +kernel
theorem dX6_init_49 : decode cX6_init 49 = .ok (.sipush 2000, 3) := by decide +kernel
theorem dX6_init_52 : decode cX6_init 52 = .ok (.newarray .int, 2) := by decide +kernel
theorem dX6_init_54 : decode cX6_init 54 = .ok (.putfield 28, 3) := by decide +kernel
theorem dX6_init_57 : decode cX6_init 57 = .ok (.aload_n 0, 1) := by decide +kernel
theorem dX6_init_58 : decode cX6_init 58 = .ok (.sipush 3000, 3) := by decide +kernel
theorem dX6_init_61 : decode cX6_init 61 = .ok (.newarray .int, 2) := by decide +kernel
theorem dX6_init_63 : decode cX6_init 63 = .ok (.putfield 31, 3) := by decide +kernel
theorem dX6_init_66 : decode cX6_init 66 = .ok (.return_, 1) := by decide +kernel
set_option maxRecDepth 20000 in
theorem ggX6_reset_J7_fill_53178 : GoodIn wsX6_reset wsJ7_fill_53178 := goodIn_r _ [8] (by decide +kernel) (by decide +kernel)
set_option maxRecDepth 20000 in
theorem gX6_reset_J7_fill_53178 : GoodIn wsX6_reset (va_wsS RX6 44 yJ7_fill_53178 wsJ7_fill_53178) := goodIn_app (goodIn_of _ (by decide +kernel)) ggX6_reset_J7_fill_53178
theorem dX6_reset_0 : decode cX6_reset 0 = .ok (.aload_n 0, 1) := by decide +kernel
theorem dX6_reset_1 : decode cX6_reset 1 = .ok (.iconst 0, 1) := by decide +kernel
theorem dX6_reset_2 : decode cX6_reset 2 = .ok (.putfield 34, 3) := by decide +kernel
theorem dX6_reset_5 : decode cX6_reset 5 = .ok (.aload_n 0, 1) := by decide +kernel
theorem dX6_reset_6 : decode cX6_reset 6 = .ok (.iconst 0, 1) := by decide +kernel
theorem dX6_reset_7 : decode cX6_reset 7 = .ok (.putfield 38, 3) := by decide +kernel
theorem dX6_reset_10 : decode cX6_reset 10 = .ok (.aload_n 0, 1) := by decide +kernel
theorem dX6_reset_11 : decode cX6_reset 11 = .ok (.iconst 0, 1) := by decide +kernel
theorem dX6_reset_12 : decode cX6_reset 12 = .ok (.putfield 41, 3) := by decide +kernel
theorem dX6_reset_15 : decode cX6_reset 15 = .ok (.aload_n 0, 1) := by decide +kernel
theorem dX6_reset_16 : decode cX6_reset 16 = .ok (.getfield 9, 3) := by decide +kernel
theorem dX6_reset_19 : decode cX6_reset 19 = .ok (.iconst (-1), 1) := by decide +kernel
