theorem dX5_take_78 : decode cX5_take 78 = .ok (.iload_n 3, 1) := by decide +kernel
theorem dX5_take_79 : decode cX5_take 79 = .ok (.ireturn, 1) := by decide +kernel
theorem dX6_init_0 : decode cX6_init 0 = .ok (.aload_n 0, 1) := by decide +kernel
theorem dX6_init_1 : decode cX6_init 1 = .ok (.invokespecial 3, 3) := by decide +kernel
theorem dX6_init_4 : decode cX6_init 4 = .ok (.aload_n 0, 1) := by decide +kernel
theorem dX6_init_5 : decode cX6_init 5 = .ok (.bipush 80, 2) := by decide +kernel
theorem dX6_init_7 : decode cX6_init 7 = .ok (.newarray .int, 2) := by decide +kernel
theorem dX6_init_9 : decode cX6_init 9 = .ok (.putfield 9, 3) := by decide +kernel
theorem dX6_init_12 : decode cX6_init 12 = .ok (.aload_n 0, 1) := by decide +kernel
theorem dX6_init_13 : decode cX6_init 13 = .ok (.sipush 2000, 3) := by decide +kernel
theorem dX6_init_16 : decode cX6_init 16 = .ok (.newarray .long, 2) := by decide +kernel
theorem dX6_init_18 : decode cX6_init 18 = .ok (.putfield 15, 3) := by decide +kernel
theorem dX6_init_21 : decode cX6_init 21 = .ok (.aload_n 0, 1) := by decide +kernel
theorem dX6_init_22 : decode cX6_init 22 = .ok (.sipush 300, 3) := by decide +kernel
theorem dX6_init_25 : decode cX6_init 25 = .ok (.newarray .int, 2) := by decide +kernel
theorem dX6_init_27 : decode cX6_init 27 = .ok (.putfield 19, 3) := by decide +kernel
theorem dX6_init_30 : decode cX6_init 30 = .ok (.aload_n 0, 1) := by decide +kernel
theorem dX6_init_31 : decode cX6_init 31 = .ok (.sipush 300, 3) := by decide +kernel
theorem dX6_init_34 : decode cX6_init 34 = .ok (.newarray .int, 2) := by decide +kernel
theorem dX6_init_36 : decode cX6_init 36 = .ok (.putfield 22, 3) := by decide +kernel
theorem dX6_init_39 : decode cX6_init 39 = .ok (.aload_n 0, 1) := by decide +kernel
theorem dX6_init_40 : decode cX6_init 40 = .ok (.sipush 2000, 3) := by decide +kernel
theorem dX6_init_43 : decode cX6_init 43 = .ok (.newarray .int, 2) := by decide +kernel
theorem dX6_init_45 : decode cX6_init 45 = .ok (.putfield 25, 3) := by decide +kernel
theorem dX6_init_48 : decode cX6_init 48 = .ok (.aload_n 0, 1) := by decide +kernel
theorem dX6_init_49 : decode cX6_init 49 = .ok (.sipush 2000, 3) := by decide +kernel
theorem dX6_init_52 : decode cX6_init 52 = .ok (.newarray .int, 2) := by decide +kernel
theorem dX6_init_54 : decode cX6_init 54 = .ok (.putfield 28, 3) := by decide +kernel
theorem dX6_init_57 : decode cX6_init 57 = .ok (.aload_n 0, 1) := by decide +kernel
theorem dX6_init_58 : decode cX6_init 58 = .ok (.sipush 3000, 3) := by decide +kernel
theorem dX6_init_61 : decode cX6_init 61 = .ok (.newarray .int, 2) := by decide +kernel
theorem dX6_init_63 : decode cX6_init 63 = .ok (.putfield 31, 3) := by decide +kernel
theorem dX6_init_66 : decode cX6_init 66 = .ok (.return_, 1) := by decide +kernel
theorem dX6_reset_0 : decode cX6_reset 0 = .ok (.aload_n 0, 1) := by decide +kernel
theorem dX6_reset_1 : decode cX6_reset 1 = .ok (.iconst 0, 1) := by decide +kernel
theorem dX6_reset_2 : decode cX6_reset 2 = .ok (.putfield 34, 3) := by decide +kernel
theorem dX6_reset_5 : decode cX6_reset 5 = .ok (.aload_n 0, 1) := by decide +kernel
theorem dX6_reset_6 : decode cX6_reset 6 = .ok (.iconst 0, 1) := by decide +kernel
theorem dX6_reset_7 : decode cX6_reset 7 = .ok (.putfield 38, 3) := by decide +kernel
theorem dX6_reset_10 : decode cX6_reset 10 = .ok (.aload_n 0, 1) := by decide +kernel
theorem dX6_reset_11 : decode cX6_reset 11 = .ok (.iconst 0, 1) := by decide +kernel
theorem dX6_reset_12 : decode cX6_reset 12 = .ok (.putfield 41, 3) := by decide +kernel
theorem dX6_reset_15 : decode cX6_reset 15 = .ok (.aload_n 0, 1) := by decide +kernel
theorem dX6_reset_16 : decode cX6_reset 16 = .ok (.getfield 9, 3) := by decide +kernel
theorem dX6_reset_19 : decode cX6_reset 19 = .ok (.iconst (-1), 1) := by decide +kernel
theorem dX6_reset_20 : decode cX6_reset 20 = .ok (.invokestatic 44, 3) := by decide +kernel
theorem dX6_reset_23 : decode cX6_reset 23 = .ok (.return_, 1) := by decide +kernel
theorem dX6_make_0 : decode cX6_make 0 = .ok (.aload_n 0, 1) := by decide +kernel
theorem dX6_make_1 : decode cX6_make 1 = .ok (.getfield 38, 3) := by decide +kernel
theorem dX6_make_4 : decode cX6_make 4 = .ok (.sipush 300, 3) := by decide +kernel
theorem dX6_make_7 : decode cX6_make 7 = .ok (.if_icmp .ge 15, 3) := by decide +kernel
theorem dX6_make_10 : decode cX6_make 10 = .ok (.aload_n 0, 1) := by decide +kernel
theorem dX6_make_11 : decode cX6_make 11 = .ok (.getfield 41, 3) := by decide +kernel
theorem dX6_make_14 : decode cX6_make 14 = .ok (.iload_n 1, 1) := by decide +kernel
theorem dX6_make_15 : decode cX6_make 15 = .ok (.iadd, 1) := by decide +kernel
theorem dX6_make_16 : decode cX6_make 16 = .ok (.sipush 2000, 3) := by decide +kernel
theorem dX6_make_19 : decode cX6_make 19 = .ok (.if_icmp .le 5, 3) := by decide +kernel
theorem dX6_make_22 : decode cX6_make 22 = .ok (.iconst (-1), 1) := by decide +kernel
theorem dX6_make_23 : decode cX6_make 23 = .ok (.ireturn, 1) := by decide +kernel
theorem dX6_make_24 : decode cX6_make 24 = .ok (.aload_n 0, 1) := by decide +kernel
theorem dX6_make_25 : decode cX6_make 25 = .ok (.getfield 38, 3) := by decide +kernel
theorem dX6_make_28 : decode cX6_make 28 = .ok (.istore_n 2, 1) := by decide +kernel
theorem dX6_make_29 : decode cX6_make 29 = .ok (.aload_n 0, 1) := by decide +kernel
theorem dX6_make_30 : decode cX6_make 30 = .ok (.dup, 1) := by decide +kernel
theorem dX6_make_31 : decode cX6_make 31 = .ok (.getfield 38, 3) := by decide +kernel
theorem dX6_make_34 : decode cX6_make 34 = .ok (.iconst 1, 1) := by decide +kernel
theorem dX6_make_35 : decode cX6_make 35 = .ok (.iadd, 1) := by decide +kernel
theorem dX6_make_36 : decode cX6_make 36 = .ok (.putfield 38, 3) := by decide +kernel
theorem dX6_make_39 : decode cX6_make 39 = .ok (.aload_n 0, 1) := by decide +kernel
theorem dX6_make_40 : decode cX6_make 40 = .ok (.getfield 19, 3) := by decide +kernel
theorem dX6_make_43 : decode cX6_make 43 = .ok (.iload_n 2, 1) := by decide +kernel
theorem dX6_make_44 : decode cX6_make 44 = .ok (.aload_n 0, 1) := by decide +kernel
theorem dX6_make_45 : decode cX6_make 45 = .ok (.getfield 41, 3) := by decide +kernel
theorem dX6_make_48 : decode cX6_make 48 = .ok (.iastore, 1) := by decide +kernel
theorem dX6_make_49 : decode cX6_make 49 = .ok (.aload_n 0, 1) := by decide +kernel
theorem dX6_make_50 : decode cX6_make 50 = .ok (.getfield 22, 3) := by decide +kernel
theorem dX6_make_53 : decode cX6_make 53 = .ok (.iload_n 2, 1) := by decide +kernel
theorem dX6_make_54 : decode cX6_make 54 = .ok (.iload_n 1, 1) := by decide +kernel
theorem dX6_make_55 : decode cX6_make 55 = .ok (.iastore, 1) := by decide +kernel
theorem dX6_make_56 : decode cX6_make 56 = .ok (.iconst 0, 1) := by decide +kernel
theorem dX6_make_57 : decode cX6_make 57 = .ok (.istore_n 3, 1) := by decide +kernel
theorem dX6_make_58 : decode cX6_make 58 = .ok (.iload_n 3, 1) := by decide +kernel
theorem dX6_make_59 : decode cX6_make 59 = .ok (.iload_n 1, 1) := by decide +kernel
theorem dX6_make_60 : decode cX6_make 60 = .ok (.if_icmp .ge 49, 3) := by decide +kernel
theorem dX6_make_63 : decode cX6_make 63 = .ok (.aload_n 0, 1) := by decide +kernel
theorem dX6_make_64 : decode cX6_make 64 = .ok (.getfield 15, 3) := by decide +kernel
theorem dX6_make_67 : decode cX6_make 67 = .ok (.aload_n 0, 1) := by decide +kernel
theorem dX6_make_68 : decode cX6_make 68 = .ok (.getfield 41, 3) := by decide +kernel
theorem dX6_make_71 : decode cX6_make 71 = .ok (.lconst 0, 1) := by decide +kernel
theorem dX6_make_72 : decode cX6_make 72 = .ok (.lastore, 1) := by decide +kernel
theorem dX6_make_73 : decode cX6_make 73 = .ok (.aload_n 0, 1) := by decide +kernel
theorem dX6_make_74 : decode cX6_make 74 = .ok (.getfield 25, 3) := by decide +kernel
theorem dX6_make_77 : decode cX6_make 77 = .ok (.aload_n 0, 1) := by decide +kernel
theorem dX6_make_78 : decode cX6_make 78 = .ok (.getfield 41, 3) := by decide +kernel
theorem dX6_make_81 : decode cX6_make 81 = .ok (.iconst (-1), 1) := by decide +kernel
theorem dX6_make_82 : decode cX6_make 82 = .ok (.iastore, 1) := by decide +kernel
theorem dX6_make_83 : decode cX6_make 83 = .ok (.aload_n 0, 1) := by decide +kernel
theorem dX6_make_84 : decode cX6_make 84 = .ok (.getfield 28, 3) := by decide +kernel
theorem dX6_make_87 : decode cX6_make 87 = .ok (.aload_n 0, 1) := by decide +kernel
theorem dX6_make_88 : decode cX6_make 88 = .ok (.getfield 41, 3) := by decide +kernel
theorem dX6_make_91 : decode cX6_make 91 = .ok (.iconst (-1), 1) := by decide +kernel
theorem dX6_make_92 : decode cX6_make 92 = .ok (.iastore, 1) := by decide +kernel
theorem dX6_make_93 : decode cX6_make 93 = .ok (.aload_n 0, 1) := by decide +kernel
theorem dX6_make_94 : decode cX6_make 94 = .ok (.dup, 1) := by decide +kernel
theorem dX6_make_95 : decode cX6_make 95 = .ok (.getfield 41, 3) := by decide +kernel
theorem dX6_make_98 : decode cX6_make 98 = .ok (.iconst 1, 1) := by decide +kernel
theorem dX6_make_99 : decode cX6_make 99 = .ok (.iadd, 1) := by decide +kernel
theorem dX6_make_100 : decode cX6_make 100 = .ok (.putfield 41, 3) := by decide +kernel
theorem dX6_make_103 : decode cX6_make 103 = .ok (.iinc 3 1, 3) := by decide +kernel
theorem dX6_make_106 : decode cX6_make 106 = .ok (.goto (-48), 3) := by decide +kernel
theorem dX6_make_109 : decode cX6_make 109 = .ok (.iload_n 2, 1) := by decide +kernel
theorem dX6_make_110 : decode cX6_make 110 = .ok (.ireturn, 1) := by decide +kernel
theorem dX6_sizeOf_0 : decode cX6_sizeOf 0 = .ok (.iload_n 1, 1) := by decide +kernel
theorem dX6_sizeOf_1 : decode cX6_sizeOf 1 = .ok (.ifCond .lt 20, 3) := by decide +kernel
theorem dX6_sizeOf_4 : decode cX6_sizeOf 4 = .ok (.iload_n 1, 1) := by decide +kernel
theorem dX6_sizeOf_5 : decode cX6_sizeOf 5 = .ok (.aload_n 0, 1) := by decide +kernel
theorem dX6_sizeOf_6 : decode cX6_sizeOf 6 = .ok (.getfield 38, 3) := by decide +kernel
theorem dX6_sizeOf_9 : decode cX6_sizeOf 9 = .ok (.if_icmp .ge 12, 3) := by decide +kernel
theorem dX6_sizeOf_12 : decode cX6_sizeOf 12 = .ok (.aload_n 0, 1) := by decide +kernel
theorem dX6_sizeOf_13 : decode cX6_sizeOf 13 = .ok (.getfield 22, 3) := by decide +kernel
theorem dX6_sizeOf_16 : decode cX6_sizeOf 16 = .ok (.iload_n 1, 1) := by decide +kernel
theorem dX6_sizeOf_17 : decode cX6_sizeOf 17 = .ok (.iaload, 1) := by decide +kernel
theorem dX6_sizeOf_18 : decode cX6_sizeOf 18 = .ok (.goto 4, 3) := by decide +kernel
theorem dX6_sizeOf_21 : decode cX6_sizeOf 21 = .ok (.iconst 0, 1) := by decide +kernel
theorem dX6_sizeOf_22 : decode cX6_sizeOf 22 = .ok (.ireturn, 1) := by decide +kernel
theorem dX6_placeIn_0 : decode cX6_placeIn 0 = .ok (.iload_n 2, 1) := by decide +kernel
theorem dX6_placeIn_1 : decode cX6_placeIn 1 = .ok (.ifCond .lt 23, 3) := by decide +kernel
theorem dX6_placeIn_4 : decode cX6_placeIn 4 = .ok (.iload_n 2, 1) := by decide +kernel
theorem dX6_placeIn_5 : decode cX6_placeIn 5 = .ok (.aload_n 0, 1) := by decide +kernel
theorem dX6_placeIn_6 : decode cX6_placeIn 6 = .ok (.iload_n 1, 1) := by decide +kernel
theorem dX6_placeIn_7 : decode cX6_placeIn 7 = .ok (.invokevirtual 52, 3) := by decide +kernel
theorem dX6_placeIn_10 : decode cX6_placeIn 10 = .ok (.if_icmp .ge 14, 3) := by decide +kernel
theorem dX6_placeIn_13 : decode cX6_placeIn 13 = .ok (.aload_n 0, 1) := by decide +kernel
theorem dX6_placeIn_14 : decode cX6_placeIn 14 = .ok (.getfield 19, 3) := by decide +kernel
theorem dX6_placeIn_17 : decode cX6_placeIn 17 = .ok (.iload_n 1, 1) := by decide +kernel
theorem dX6_placeIn_18 : decode cX6_placeIn 18 = .ok (.iaload, 1) := by decide +kernel
theorem dX6_placeIn_19 : decode cX6_placeIn 19 = .ok (.iload_n 2, 1) := by decide +kernel
theorem dX6_placeIn_20 : decode cX6_placeIn 20 = .ok (.iadd, 1) := by decide +kernel
theorem dX6_placeIn_21 : decode cX6_placeIn 21 = .ok (.goto 4, 3) := by decide +kernel
theorem dX6_placeIn_24 : decode cX6_placeIn 24 = .ok (.iconst (-1), 1) := by decide +kernel
theorem dX6_placeIn_25 : decode cX6_placeIn 25 = .ok (.ireturn, 1) := by decide +kernel
theorem dX6_addReader_0 : decode cX6_addReader 0 = .ok (.aload_n 0, 1) := by decide +kernel
theorem dX6_addReader_1 : decode cX6_addReader 1 = .ok (.getfield 31, 3) := by decide +kernel
theorem dX6_addReader_4 : decode cX6_addReader 4 = .ok (.iload_n 2, 1) := by decide +kernel
theorem dX6_addReader_5 : decode cX6_addReader 5 = .ok (.iconst (-1), 1) := by decide +kernel
theorem dX6_addReader_6 : decode cX6_addReader 6 = .ok (.iastore, 1) := by decide +kernel
theorem dX6_addReader_7 : decode cX6_addReader 7 = .ok (.aload_n 0, 1) := by decide +kernel
theorem dX6_addReader_8 : decode cX6_addReader 8 = .ok (.getfield 28, 3) := by decide +kernel
theorem dX6_addReader_11 : decode cX6_addReader 11 = .ok (.iload_n 1, 1) := by decide +kernel
theorem dX6_addReader_12 : decode cX6_addReader 12 = .ok (.iaload, 1) := by decide +kernel
theorem dX6_addReader_13 : decode cX6_addReader 13 = .ok (.istore_n 3, 1) := by decide +kernel
theorem dX6_addReader_14 : decode cX6_addReader 14 = .ok (.iload_n 3, 1) := by decide +kernel
theorem dX6_addReader_15 : decode cX6_addReader 15 = .ok (.iconst (-1), 1) := by decide +kernel
theorem dX6_addReader_16 : decode cX6_addReader 16 = .ok (.if_icmp .ne 13, 3) := by decide +kernel
theorem dX6_addReader_19 : decode cX6_addReader 19 = .ok (.aload_n 0, 1) := by decide +kernel
theorem dX6_addReader_20 : decode cX6_addReader 20 = .ok (.getfield 25, 3) := by decide +kernel
theorem dX6_addReader_23 : decode cX6_addReader 23 = .ok (.iload_n 1, 1) := by decide +kernel
theorem dX6_addReader_24 : decode cX6_addReader 24 = .ok (.iload_n 2, 1) := by decide +kernel
theorem dX6_addReader_25 : decode cX6_addReader 25 = .ok (.iastore, 1) := by decide +kernel
theorem dX6_addReader_26 : decode cX6_addReader 26 = .ok (.goto 10, 3) := by decide +kernel
theorem dX6_addReader_29 : decode cX6_addReader 29 = .ok (.aload_n 0, 1) := by decide +kernel
theorem dX6_addReader_30 : decode cX6_addReader 30 = .ok (.getfield 31, 3) := by decide +kernel
theorem dX6_addReader_33 : decode cX6_addReader 33 = .ok (.iload_n 3, 1) := by decide +kernel
theorem dX6_addReader_34 : decode cX6_addReader 34 = .ok (.iload_n 2, 1) := by decide +kernel
theorem dX6_addReader_35 : decode cX6_addReader 35 = .ok (.iastore, 1) := by decide +kernel
theorem dX6_addReader_36 : decode cX6_addReader 36 = .ok (.aload_n 0, 1) := by decide +kernel
theorem dX6_addReader_37 : decode cX6_addReader 37 = .ok (.getfield 28, 3) := by decide +kernel
theorem dX6_addReader_40 : decode cX6_addReader 40 = .ok (.iload_n 1, 1) := by decide +kernel
theorem dX6_addReader_41 : decode cX6_addReader 41 = .ok (.iload_n 2, 1) := by decide +kernel
theorem dX6_addReader_42 : decode cX6_addReader 42 = .ok (.iastore, 1) := by decide +kernel
theorem dX6_addReader_43 : decode cX6_addReader 43 = .ok (.aload_n 0, 1) := by decide +kernel
theorem dX6_addReader_44 : decode cX6_addReader 44 = .ok (.dup, 1) := by decide +kernel
theorem dX6_addReader_45 : decode cX6_addReader 45 = .ok (.getfield 34, 3) := by decide +kernel
theorem dX6_addReader_48 : decode cX6_addReader 48 = .ok (.iconst 1, 1) := by decide +kernel
theorem dX6_addReader_49 : decode cX6_addReader 49 = .ok (.iadd, 1) := by decide +kernel
theorem dX6_addReader_50 : decode cX6_addReader 50 = .ok (.putfield 34, 3) := by decide +kernel
theorem dX6_addReader_53 : decode cX6_addReader 53 = .ok (.return_, 1) := by decide +kernel
theorem dX6_takeReader_0 : decode cX6_takeReader 0 = .ok (.aload_n 0, 1) := by decide +kernel
theorem dX6_takeReader_1 : decode cX6_takeReader 1 = .ok (.getfield 25, 3) := by decide +kernel
theorem dX6_takeReader_4 : decode cX6_takeReader 4 = .ok (.iload_n 1, 1) := by decide +kernel
theorem dX6_takeReader_5 : decode cX6_takeReader 5 = .ok (.iaload, 1) := by decide +kernel
theorem dX6_takeReader_6 : decode cX6_takeReader 6 = .ok (.istore_n 2, 1) := by decide +kernel
theorem dX6_takeReader_7 : decode cX6_takeReader 7 = .ok (.iload_n 2, 1) := by decide +kernel
theorem dX6_takeReader_8 : decode cX6_takeReader 8 = .ok (.iconst (-1), 1) := by decide +kernel
theorem dX6_takeReader_9 : decode cX6_takeReader 9 = .ok (.if_icmp .ne 5, 3) := by decide +kernel
theorem dX6_takeReader_12 : decode cX6_takeReader 12 = .ok (.iconst (-1), 1) := by decide +kernel
theorem dX6_takeReader_13 : decode cX6_takeReader 13 = .ok (.ireturn, 1) := by decide +kernel
theorem dX6_takeReader_14 : decode cX6_takeReader 14 = .ok (.aload_n 0, 1) := by decide +kernel
theorem dX6_takeReader_15 : decode cX6_takeReader 15 = .ok (.getfield 25, 3) := by decide +kernel
theorem dX6_takeReader_18 : decode cX6_takeReader 18 = .ok (.iload_n 1, 1) := by decide +kernel
theorem dX6_takeReader_19 : decode cX6_takeReader 19 = .ok (.aload_n 0, 1) := by decide +kernel
theorem dX6_takeReader_20 : decode cX6_takeReader 20 = .ok (.getfield 31, 3) := by decide +kernel
theorem dX6_takeReader_23 : decode cX6_takeReader 23 = .ok (.iload_n 2, 1) := by decide +kernel
theorem dX6_takeReader_24 : decode cX6_takeReader 24 = .ok (.iaload, 1) := by decide +kernel
theorem dX6_takeReader_25 : decode cX6_takeReader 25 = .ok (.iastore, 1) := by decide +kernel
theorem dX6_takeReader_26 : decode cX6_takeReader 26 = .ok (.aload_n 0, 1) := by decide +kernel
theorem dX6_takeReader_27 : decode cX6_takeReader 27 = .ok (.dup, 1) := by decide +kernel
theorem dX6_takeReader_28 : decode cX6_takeReader 28 = .ok (.getfield 34, 3) := by decide +kernel
theorem dX6_takeReader_31 : decode cX6_takeReader 31 = .ok (.iconst 1, 1) := by decide +kernel
theorem dX6_takeReader_32 : decode cX6_takeReader 32 = .ok (.isub, 1) := by decide +kernel
theorem dX6_takeReader_33 : decode cX6_takeReader 33 = .ok (.putfield 34, 3) := by decide +kernel
theorem dX6_takeReader_36 : decode cX6_takeReader 36 = .ok (.iload_n 2, 1) := by decide +kernel
theorem dX6_takeReader_37 : decode cX6_takeReader 37 = .ok (.ireturn, 1) := by decide +kernel
theorem dX7_ofTwo_0 : decode cX7_ofTwo 0 = .ok (.iload_n 0, 1) := by decide +kernel
theorem dX7_ofTwo_1 : decode cX7_ofTwo 1 = .ok (.bipush 8, 2) := by decide +kernel
theorem dX7_ofTwo_3 : decode cX7_ofTwo 3 = .ok (.if_icmp .ne 10, 3) := by decide +kernel
theorem dX7_ofTwo_6 : decode cX7_ofTwo 6 = .ok (.lload_n 2, 1) := by decide +kernel
theorem dX7_ofTwo_7 : decode cX7_ofTwo 7 = .ok (.invokestatic 9, 3) := by decide +kernel
theorem dX7_ofTwo_10 : decode cX7_ofTwo 10 = .ok (.goto 4, 3) := by decide +kernel
theorem dX7_ofTwo_13 : decode cX7_ofTwo 13 = .ok (.iconst 1, 1) := by decide +kernel
theorem dX7_ofTwo_14 : decode cX7_ofTwo 14 = .ok (.istore 6, 2) := by decide +kernel
theorem dX7_ofTwo_16 : decode cX7_ofTwo 16 = .ok (.iload_n 1, 1) := by decide +kernel
theorem dX7_ofTwo_17 : decode cX7_ofTwo 17 = .ok (.lload_n 2, 1) := by decide +kernel
theorem dX7_ofTwo_18 : decode cX7_ofTwo 18 = .ok (.iload 6, 2) := by decide +kernel
theorem dX7_ofTwo_20 : decode cX7_ofTwo 20 = .ok (.lload 4, 2) := by decide +kernel
theorem dX7_ofTwo_22 : decode cX7_ofTwo 22 = .ok (.iload 6, 2) := by decide +kernel
theorem dX7_ofTwo_24 : decode cX7_ofTwo 24 = .ok (.invokestatic 15, 3) := by decide +kernel
theorem dX7_ofTwo_27 : decode cX7_ofTwo 27 = .ok (.lstore 7, 2) := by decide +kernel
theorem dX7_ofTwo_29 : decode cX7_ofTwo 29 = .ok (.lload 7, 2) := by decide +kernel
theorem dX7_ofTwo_31 : decode cX7_ofTwo 31 = .ok (.lconst 0, 1) := by decide +kernel
theorem dX7_ofTwo_32 : decode cX7_ofTwo 32 = .ok (.lcmp, 1) := by decide +kernel
theorem dX7_ofTwo_33 : decode cX7_ofTwo 33 = .ok (.ifCond .eq 6, 3) := by decide +kernel
theorem dX7_ofTwo_36 : decode cX7_ofTwo 36 = .ok (.lload 7, 2) := by decide +kernel
theorem dX7_ofTwo_38 : decode cX7_ofTwo 38 = .ok (.lreturn, 1) := by decide +kernel
theorem dX7_ofTwo_39 : decode cX7_ofTwo 39 = .ok (.lload_n 2, 1) := by decide +kernel
theorem dX7_ofTwo_40 : decode cX7_ofTwo 40 = .ok (.invokestatic 19, 3) := by decide +kernel
theorem dX7_ofTwo_43 : decode cX7_ofTwo 43 = .ok (.istore 9, 2) := by decide +kernel
theorem dX7_ofTwo_45 : decode cX7_ofTwo 45 = .ok (.lload 4, 2) := by decide +kernel
theorem dX7_ofTwo_47 : decode cX7_ofTwo 47 = .ok (.invokestatic 19, 3) := by decide +kernel
theorem dX7_ofTwo_50 : decode cX7_ofTwo 50 = .ok (.istore 10, 2) := by decide +kernel
theorem dX7_ofTwo_52 : decode cX7_ofTwo 52 = .ok (.iload_n 0, 1) := by decide +kernel
theorem dX7_ofTwo_53 : decode cX7_ofTwo 53 = .ok (.tableswitch 126 2 7 #[39, 48, 57, 66, 88, 110], 39) := by decide +kernel
theorem dX7_ofTwo_92 : decode cX7_ofTwo 92 = .ok (.iload 9, 2) := by decide +kernel
theorem dX7_ofTwo_94 : decode cX7_ofTwo 94 = .ok (.iload 10, 2) := by decide +kernel
theorem dX7_ofTwo_96 : decode cX7_ofTwo 96 = .ok (.iadd, 1) := by decide +kernel
theorem dX7_ofTwo_97 : decode cX7_ofTwo 97 = .ok (.invokestatic 22, 3) := by decide +kernel
theorem dX7_ofTwo_100 : decode cX7_ofTwo 100 = .ok (.lreturn, 1) := by decide +kernel
theorem dX7_ofTwo_101 : decode cX7_ofTwo 101 = .ok (.iload 9, 2) := by decide +kernel
theorem dX7_ofTwo_103 : decode cX7_ofTwo 103 = .ok (.iload 10, 2) := by decide +kernel
theorem dX7_ofTwo_105 : decode cX7_ofTwo 105 = .ok (.isub, 1) := by decide +kernel
theorem dX7_ofTwo_106 : decode cX7_ofTwo 106 = .ok (.invokestatic 22, 3) := by decide +kernel
theorem dX7_ofTwo_109 : decode cX7_ofTwo 109 = .ok (.lreturn, 1) := by decide +kernel
theorem dX7_ofTwo_110 : decode cX7_ofTwo 110 = .ok (.iload 9, 2) := by decide +kernel
theorem dX7_ofTwo_112 : decode cX7_ofTwo 112 = .ok (.iload 10, 2) := by decide +kernel
theorem dX7_ofTwo_114 : decode cX7_ofTwo 114 = .ok (.imul, 1) := by decide +kernel
theorem dX7_ofTwo_115 : decode cX7_ofTwo 115 = .ok (.invokestatic 22, 3) := by decide +kernel
theorem dX7_ofTwo_118 : decode cX7_ofTwo 118 = .ok (.lreturn, 1) := by decide +kernel
theorem dX7_ofTwo_119 : decode cX7_ofTwo 119 = .ok (.iload 10, 2) := by decide +kernel
theorem dX7_ofTwo_121 : decode cX7_ofTwo 121 = .ok (.ifCond .ne 11, 3) := by decide +kernel
theorem dX7_ofTwo_124 : decode cX7_ofTwo 124 = .ok (.iconst 1, 1) := by decide +kernel
theorem dX7_ofTwo_125 : decode cX7_ofTwo 125 = .ok (.iload_n 1, 1) := by decide +kernel
theorem dX7_ofTwo_126 : decode cX7_ofTwo 126 = .ok (.invokestatic 26, 3) := by decide +kernel
theorem dX7_ofTwo_129 : decode cX7_ofTwo 129 = .ok (.goto 11, 3) := by decide +kernel
theorem dX7_ofTwo_132 : decode cX7_ofTwo 132 = .ok (.iload 9, 2) := by decide +kernel
theorem dX7_ofTwo_134 : decode cX7_ofTwo 134 = .ok (.iload 10, 2) := by decide +kernel
theorem dX7_ofTwo_136 : decode cX7_ofTwo 136 = .ok (.idiv, 1) := by decide +kernel
theorem dX7_ofTwo_137 : decode cX7_ofTwo 137 = .ok (.invokestatic 22, 3) := by decide +kernel
theorem dX7_ofTwo_140 : decode cX7_ofTwo 140 = .ok (.lreturn, 1) := by decide +kernel
theorem dX7_ofTwo_141 : decode cX7_ofTwo 141 = .ok (.iload 10, 2) := by decide +kernel
theorem dX7_ofTwo_143 : decode cX7_ofTwo 143 = .ok (.ifCond .ne 11, 3) := by decide +kernel
theorem dX7_ofTwo_146 : decode cX7_ofTwo 146 = .ok (.iconst 1, 1) := by decide +kernel
theorem dX7_ofTwo_147 : decode cX7_ofTwo 147 = .ok (.iload_n 1, 1) := by decide +kernel
theorem dX7_ofTwo_148 : decode cX7_ofTwo 148 = .ok (.invokestatic 26, 3) := by decide +kernel
theorem dX7_ofTwo_151 : decode cX7_ofTwo 151 = .ok (.goto 11, 3) := by decide +kernel
theorem dX7_ofTwo_154 : decode cX7_ofTwo 154 = .ok (.iload 9, 2) := by decide +kernel
theorem dX7_ofTwo_156 : decode cX7_ofTwo 156 = .ok (.iload 10, 2) := by decide +kernel
theorem dX7_ofTwo_158 : decode cX7_ofTwo 158 = .ok (.irem, 1) := by decide +kernel
theorem dX7_ofTwo_159 : decode cX7_ofTwo 159 = .ok (.invokestatic 22, 3) := by decide +kernel
theorem dX7_ofTwo_162 : decode cX7_ofTwo 162 = .ok (.lreturn, 1) := by decide +kernel
theorem dX7_ofTwo_163 : decode cX7_ofTwo 163 = .ok (.iload 9, 2) := by decide +kernel
theorem dX7_ofTwo_165 : decode cX7_ofTwo 165 = .ok (.iload 10, 2) := by decide +kernel
theorem dX7_ofTwo_167 : decode cX7_ofTwo 167 = .ok (.if_icmp .ge 7, 3) := by decide +kernel
theorem dX7_ofTwo_170 : decode cX7_ofTwo 170 = .ok (.iconst 1, 1) := by decide +kernel
theorem dX7_ofTwo_171 : decode cX7_ofTwo 171 = .ok (.goto 4, 3) := by decide +kernel
theorem dX7_ofTwo_174 : decode cX7_ofTwo 174 = .ok (.iconst 0, 1) := by decide +kernel
theorem dX7_ofTwo_175 : decode cX7_ofTwo 175 = .ok (.invokestatic 30, 3) := by decide +kernel
theorem dX7_ofTwo_178 : decode cX7_ofTwo 178 = .ok (.lreturn, 1) := by decide +kernel
theorem dX7_ofTwo_179 : decode cX7_ofTwo 179 = .ok (.iload 9, 2) := by decide +kernel
theorem dX7_ofTwo_181 : decode cX7_ofTwo 181 = .ok (.iload 10, 2) := by decide +kernel
theorem dX7_ofTwo_183 : decode cX7_ofTwo 183 = .ok (.if_icmp .ne 7, 3) := by decide +kernel
theorem dX7_ofTwo_186 : decode cX7_ofTwo 186 = .ok (.iconst 1, 1) := by decide +kernel
theorem dX7_ofTwo_187 : decode cX7_ofTwo 187 = .ok (.goto 4, 3) := by decide +kernel
theorem dX7_ofTwo_190 : decode cX7_ofTwo 190 = .ok (.iconst 0, 1) := by decide +kernel
theorem dX7_ofTwo_191 : decode cX7_ofTwo 191 = .ok (.invokestatic 30, 3) := by decide +kernel
theorem dX7_ofTwo_194 : decode cX7_ofTwo 194 = .ok (.lreturn, 1) := by decide +kernel
theorem dX7_not_0 : decode cX7_not 0 = .ok (.iload_n 0, 1) := by decide +kernel
theorem dX7_not_1 : decode cX7_not 1 = .ok (.lload_n 1, 1) := by decide +kernel
theorem dX7_not_2 : decode cX7_not 2 = .ok (.iconst 1, 1) := by decide +kernel
theorem dX7_not_3 : decode cX7_not 3 = .ok (.invokestatic 34, 3) := by decide +kernel
theorem dX7_not_6 : decode cX7_not 6 = .ok (.lstore_n 3, 1) := by decide +kernel
theorem dX7_not_7 : decode cX7_not 7 = .ok (.lload_n 3, 1) := by decide +kernel
theorem dX7_not_8 : decode cX7_not 8 = .ok (.lconst 0, 1) := by decide +kernel
theorem dX7_not_9 : decode cX7_not 9 = .ok (.lcmp, 1) := by decide +kernel
theorem dX7_not_10 : decode cX7_not 10 = .ok (.ifCond .eq 7, 3) := by decide +kernel
theorem dX7_not_13 : decode cX7_not 13 = .ok (.lload_n 3, 1) := by decide +kernel
theorem dX7_not_14 : decode cX7_not 14 = .ok (.goto 18, 3) := by decide +kernel
theorem dX7_not_17 : decode cX7_not 17 = .ok (.lload_n 1, 1) := by decide +kernel
theorem dX7_not_18 : decode cX7_not 18 = .ok (.invokestatic 19, 3) := by decide +kernel
theorem dX7_not_21 : decode cX7_not 21 = .ok (.ifCond .ne 7, 3) := by decide +kernel
theorem dX7_not_24 : decode cX7_not 24 = .ok (.iconst 1, 1) := by decide +kernel
theorem dX7_not_25 : decode cX7_not 25 = .ok (.goto 4, 3) := by decide +kernel
theorem dX7_not_28 : decode cX7_not 28 = .ok (.iconst 0, 1) := by decide +kernel
theorem dX7_not_29 : decode cX7_not 29 = .ok (.invokestatic 30, 3) := by decide +kernel
theorem dX7_not_32 : decode cX7_not 32 = .ok (.lreturn, 1) := by decide +kernel
theorem dX8_ofNumber_0 : decode cX8_ofNumber 0 = .ok (.ldc2_w 9, 3) := by decide +kernel
theorem dX8_ofNumber_3 : decode cX8_ofNumber 3 = .ok (.iload_n 0, 1) := by decide +kernel
theorem dX8_ofNumber_4 : decode cX8_ofNumber 4 = .ok (.i2l, 1) := by decide +kernel
theorem dX8_ofNumber_5 : decode cX8_ofNumber 5 = .ok (.ldc2_w 11, 3) := by decide +kernel
theorem dX8_ofNumber_8 : decode cX8_ofNumber 8 = .ok (.land, 1) := by decide +kernel
theorem dX8_ofNumber_9 : decode cX8_ofNumber 9 = .ok (.lor, 1) := by decide +kernel
theorem dX8_ofNumber_10 : decode cX8_ofNumber 10 = .ok (.lreturn, 1) := by decide +kernel
theorem dX8_ofTruth_0 : decode cX8_ofTruth 0 = .ok (.iload_n 0, 1) := by decide +kernel
theorem dX8_ofTruth_1 : decode cX8_ofTruth 1 = .ok (.ifCond .eq 7, 3) := by decide +kernel
theorem dX8_ofTruth_4 : decode cX8_ofTruth 4 = .ok (.iconst 1, 1) := by decide +kernel
theorem dX8_ofTruth_5 : decode cX8_ofTruth 5 = .ok (.goto 4, 3) := by decide +kernel
theorem dX8_ofTruth_8 : decode cX8_ofTruth 8 = .ok (.iconst 0, 1) := by decide +kernel
theorem dX8_ofTruth_9 : decode cX8_ofTruth 9 = .ok (.invokestatic 13, 3) := by decide +kernel
theorem dX8_ofTruth_12 : decode cX8_ofTruth 12 = .ok (.lreturn, 1) := by decide +kernel
theorem dX8_ofRow_0 : decode cX8_ofRow 0 = .ok (.ldc2_w 17, 3) := by decide +kernel
theorem dX8_ofRow_3 : decode cX8_ofRow 3 = .ok (.iload_n 0, 1) := by decide +kernel
theorem dX8_ofRow_4 : decode cX8_ofRow 4 = .ok (.i2l, 1) := by decide +kernel
theorem dX8_ofRow_5 : decode cX8_ofRow 5 = .ok (.ldc2_w 11, 3) := by decide +kernel
theorem dX8_ofRow_8 : decode cX8_ofRow 8 = .ok (.land, 1) := by decide +kernel
theorem dX8_ofRow_9 : decode cX8_ofRow 9 = .ok (.lor, 1) := by decide +kernel
theorem dX8_ofRow_10 : decode cX8_ofRow 10 = .ok (.lreturn, 1) := by decide +kernel
theorem dX8_ofFault_0 : decode cX8_ofFault 0 = .ok (.ldc2_w 19, 3) := by decide +kernel
theorem dX8_ofFault_3 : decode cX8_ofFault 3 = .ok (.iload_n 1, 1) := by decide +kernel
theorem dX8_ofFault_4 : decode cX8_ofFault 4 = .ok (.i2l, 1) := by decide +kernel
theorem dX8_ofFault_5 : decode cX8_ofFault 5 = .ok (.bipush 32, 2) := by decide +kernel
theorem dX8_ofFault_7 : decode cX8_ofFault 7 = .ok (.lshl, 1) := by decide +kernel
theorem dX8_ofFault_8 : decode cX8_ofFault 8 = .ok (.lor, 1) := by decide +kernel
theorem dX8_ofFault_9 : decode cX8_ofFault 9 = .ok (.iload_n 0, 1) := by decide +kernel
theorem dX8_ofFault_10 : decode cX8_ofFault 10 = .ok (.i2l, 1) := by decide +kernel
theorem dX8_ofFault_11 : decode cX8_ofFault 11 = .ok (.ldc2_w 11, 3) := by decide +kernel
theorem dX8_ofFault_14 : decode cX8_ofFault 14 = .ok (.land, 1) := by decide +kernel
theorem dX8_ofFault_15 : decode cX8_ofFault 15 = .ok (.lor, 1) := by decide +kernel
theorem dX8_ofFault_16 : decode cX8_ofFault 16 = .ok (.lreturn, 1) := by decide +kernel
theorem dX8_sortOf_0 : decode cX8_sortOf 0 = .ok (.lload_n 0, 1) := by decide +kernel
theorem dX8_sortOf_1 : decode cX8_sortOf 1 = .ok (.bipush 40, 2) := by decide +kernel
theorem dX8_sortOf_3 : decode cX8_sortOf 3 = .ok (.lushr, 1) := by decide +kernel
theorem dX8_sortOf_4 : decode cX8_sortOf 4 = .ok (.l2i, 1) := by decide +kernel
theorem dX8_sortOf_5 : decode cX8_sortOf 5 = .ok (.ireturn, 1) := by decide +kernel
theorem dX8_contentOf_0 : decode cX8_contentOf 0 = .ok (.lload_n 0, 1) := by decide +kernel
theorem dX8_contentOf_1 : decode cX8_contentOf 1 = .ok (.l2i, 1) := by decide +kernel
theorem dX8_contentOf_2 : decode cX8_contentOf 2 = .ok (.ireturn, 1) := by decide +kernel
theorem dX8_actOf_0 : decode cX8_actOf 0 = .ok (.lload_n 0, 1) := by decide +kernel
theorem dX8_actOf_1 : decode cX8_actOf 1 = .ok (.bipush 32, 2) := by decide +kernel
theorem dX8_actOf_3 : decode cX8_actOf 3 = .ok (.lushr, 1) := by decide +kernel
theorem dX8_actOf_4 : decode cX8_actOf 4 = .ok (.l2i, 1) := by decide +kernel
theorem dX8_actOf_5 : decode cX8_actOf 5 = .ok (.sipush 255, 3) := by decide +kernel
theorem dX8_actOf_8 : decode cX8_actOf 8 = .ok (.iand, 1) := by decide +kernel
theorem dX8_actOf_9 : decode cX8_actOf 9 = .ok (.ireturn, 1) := by decide +kernel
theorem dX8_refuse_0 : decode cX8_refuse 0 = .ok (.lload_n 1, 1) := by decide +kernel
theorem dX8_refuse_1 : decode cX8_refuse 1 = .ok (.invokestatic 21, 3) := by decide +kernel
theorem dX8_refuse_4 : decode cX8_refuse 4 = .ok (.istore 4, 2) := by decide +kernel
theorem dX8_refuse_6 : decode cX8_refuse 6 = .ok (.iload 4, 2) := by decide +kernel
theorem dX8_refuse_8 : decode cX8_refuse 8 = .ok (.iconst 3, 1) := by decide +kernel
theorem dX8_refuse_9 : decode cX8_refuse 9 = .ok (.if_icmp .ne 5, 3) := by decide +kernel
theorem dX8_refuse_12 : decode cX8_refuse 12 = .ok (.lload_n 1, 1) := by decide +kernel
theorem dX8_refuse_13 : decode cX8_refuse 13 = .ok (.lreturn, 1) := by decide +kernel
theorem dX8_refuse_14 : decode cX8_refuse 14 = .ok (.iload 4, 2) := by decide +kernel
theorem dX8_refuse_16 : decode cX8_refuse 16 = .ok (.iload_n 3, 1) := by decide +kernel
theorem dX8_refuse_17 : decode cX8_refuse 17 = .ok (.if_icmp .ne 7, 3) := by decide +kernel
theorem dX8_refuse_20 : decode cX8_refuse 20 = .ok (.lconst 0, 1) := by decide +kernel
theorem dX8_refuse_21 : decode cX8_refuse 21 = .ok (.goto 8, 3) := by decide +kernel
theorem dX8_refuse_24 : decode cX8_refuse 24 = .ok (.iconst 4, 1) := by decide +kernel
theorem dX8_refuse_25 : decode cX8_refuse 25 = .ok (.iload_n 0, 1) := by decide +kernel
theorem dX8_refuse_26 : decode cX8_refuse 26 = .ok (.invokestatic 25, 3) := by decide +kernel
theorem dX8_refuse_29 : decode cX8_refuse 29 = .ok (.lreturn, 1) := by decide +kernel
theorem dX8_refuseTwo_0 : decode cX8_refuseTwo 0 = .ok (.lload_n 1, 1) := by decide +kernel
theorem dX8_refuseTwo_1 : decode cX8_refuseTwo 1 = .ok (.invokestatic 21, 3) := by decide +kernel
theorem dX8_refuseTwo_4 : decode cX8_refuseTwo 4 = .ok (.iconst 3, 1) := by decide +kernel
theorem dX8_refuseTwo_5 : decode cX8_refuseTwo 5 = .ok (.if_icmp .ne 5, 3) := by decide +kernel
theorem dX8_refuseTwo_8 : decode cX8_refuseTwo 8 = .ok (.lload_n 1, 1) := by decide +kernel
theorem dX8_refuseTwo_9 : decode cX8_refuseTwo 9 = .ok (.lreturn, 1) := by decide +kernel
theorem dX8_refuseTwo_10 : decode cX8_refuseTwo 10 = .ok (.lload 4, 2) := by decide +kernel
theorem dX8_refuseTwo_12 : decode cX8_refuseTwo 12 = .ok (.invokestatic 21, 3) := by decide +kernel
theorem dX8_refuseTwo_15 : decode cX8_refuseTwo 15 = .ok (.iconst 3, 1) := by decide +kernel
theorem dX8_refuseTwo_16 : decode cX8_refuseTwo 16 = .ok (.if_icmp .ne 6, 3) := by decide +kernel
theorem dX8_refuseTwo_19 : decode cX8_refuseTwo 19 = .ok (.lload 4, 2) := by decide +kernel
theorem dX8_refuseTwo_21 : decode cX8_refuseTwo 21 = .ok (.lreturn, 1) := by decide +kernel
theorem dX8_refuseTwo_22 : decode cX8_refuseTwo 22 = .ok (.lload_n 1, 1) := by decide +kernel
theorem dX8_refuseTwo_23 : decode cX8_refuseTwo 23 = .ok (.invokestatic 21, 3) := by decide +kernel
theorem dX8_refuseTwo_26 : decode cX8_refuseTwo 26 = .ok (.iload_n 3, 1) := by decide +kernel
theorem dX8_refuseTwo_27 : decode cX8_refuseTwo 27 = .ok (.if_icmp .ne 17, 3) := by decide +kernel
theorem dX8_refuseTwo_30 : decode cX8_refuseTwo 30 = .ok (.lload 4, 2) := by decide +kernel
theorem dX8_refuseTwo_32 : decode cX8_refuseTwo 32 = .ok (.invokestatic 21, 3) := by decide +kernel
theorem dX8_refuseTwo_35 : decode cX8_refuseTwo 35 = .ok (.iload 6, 2) := by decide +kernel
theorem dX8_refuseTwo_37 : decode cX8_refuseTwo 37 = .ok (.if_icmp .ne 7, 3) := by decide +kernel
theorem dX8_refuseTwo_40 : decode cX8_refuseTwo 40 = .ok (.iconst 1, 1) := by decide +kernel
theorem dX8_refuseTwo_41 : decode cX8_refuseTwo 41 = .ok (.goto 4, 3) := by decide +kernel
theorem dX8_refuseTwo_44 : decode cX8_refuseTwo 44 = .ok (.iconst 0, 1) := by decide +kernel
theorem dX8_refuseTwo_45 : decode cX8_refuseTwo 45 = .ok (.istore 7, 2) := by decide +kernel
theorem dX8_refuseTwo_47 : decode cX8_refuseTwo 47 = .ok (.iload 7, 2) := by decide +kernel
theorem dX8_refuseTwo_49 : decode cX8_refuseTwo 49 = .ok (.ifCond .eq 7, 3) := by decide +kernel
theorem dX8_refuseTwo_52 : decode cX8_refuseTwo 52 = .ok (.lconst 0, 1) := by decide +kernel
theorem dX8_refuseTwo_53 : decode cX8_refuseTwo 53 = .ok (.goto 8, 3) := by decide +kernel
theorem dX8_refuseTwo_56 : decode cX8_refuseTwo 56 = .ok (.iconst 4, 1) := by decide +kernel
theorem dX8_refuseTwo_57 : decode cX8_refuseTwo 57 = .ok (.iload_n 0, 1) := by decide +kernel
theorem dX8_refuseTwo_58 : decode cX8_refuseTwo 58 = .ok (.invokestatic 25, 3) := by decide +kernel
theorem dX8_refuseTwo_61 : decode cX8_refuseTwo 61 = .ok (.lreturn, 1) := by decide +kernel
theorem dX9_init_0 : decode cX9_init 0 = .ok (.aload_n 0, 1) := by decide +kernel
theorem dX9_init_1 : decode cX9_init 1 = .ok (.invokespecial 1, 3) := by decide +kernel
theorem dX9_init_4 : decode cX9_init 4 = .ok (.aload_n 0, 1) := by decide +kernel
theorem dX9_init_5 : decode cX9_init 5 = .ok (.new 7, 3) := by decide +kernel
theorem dX9_init_8 : decode cX9_init 8 = .ok (.dup, 1) := by decide +kernel
theorem dX9_init_9 : decode cX9_init 9 = .ok (.invokespecial 9, 3) := by decide +kernel
theorem dX9_init_12 : decode cX9_init 12 = .ok (.putfield 10, 3) := by decide +kernel
theorem dX9_init_15 : decode cX9_init 15 = .ok (.aload_n 0, 1) := by decide +kernel
theorem dX9_init_16 : decode cX9_init 16 = .ok (.new 16, 3) := by decide +kernel
theorem dX9_init_19 : decode cX9_init 19 = .ok (.dup, 1) := by decide +kernel
theorem dX9_init_20 : decode cX9_init 20 = .ok (.aload_n 0, 1) := by decide +kernel
theorem dX9_init_21 : decode cX9_init 21 = .ok (.getfield 10, 3) := by decide +kernel
theorem dX9_init_24 : decode cX9_init 24 = .ok (.invokespecial 18, 3) := by decide +kernel
theorem dX9_init_27 : decode cX9_init 27 = .ok (.putfield 21, 3) := by decide +kernel
theorem dX9_init_30 : decode cX9_init 30 = .ok (.aload_n 0, 1) := by decide +kernel
theorem dX9_init_31 : decode cX9_init 31 = .ok (.bipush 100, 2) := by decide +kernel
theorem dX9_init_33 : decode cX9_init 33 = .ok (.newarray .long, 2) := by decide +kernel
theorem dX9_init_35 : decode cX9_init 35 = .ok (.putfield 25, 3) := by decide +kernel
theorem dX9_init_38 : decode cX9_init 38 = .ok (.aload_n 0, 1) := by decide +kernel
theorem dX9_init_39 : decode cX9_init 39 = .ok (.bipush 100, 2) := by decide +kernel
theorem dX9_init_41 : decode cX9_init 41 = .ok (.newarray .long, 2) := by decide +kernel
theorem dX9_init_43 : decode cX9_init 43 = .ok (.putfield 29, 3) := by decide +kernel
theorem dX9_init_46 : decode cX9_init 46 = .ok (.aload_n 0, 1) := by decide +kernel
theorem dX9_init_47 : decode cX9_init 47 = .ok (.iconst 0, 1) := by decide +kernel
theorem dX9_init_48 : decode cX9_init 48 = .ok (.putfield 32, 3) := by decide +kernel
theorem dX9_init_51 : decode cX9_init 51 = .ok (.return_, 1) := by decide +kernel
theorem dX9_act_0 : decode cX9_act 0 = .ok (.aload_n 0, 1) := by decide +kernel
theorem dX9_act_1 : decode cX9_act 1 = .ok (.getfield 10, 3) := by decide +kernel
theorem dX9_act_4 : decode cX9_act 4 = .ok (.iload_n 1, 1) := by decide +kernel
theorem dX9_act_5 : decode cX9_act 5 = .ok (.iload_n 2, 1) := by decide +kernel
theorem dX9_act_6 : decode cX9_act 6 = .ok (.iload_n 3, 1) := by decide +kernel
theorem dX9_act_7 : decode cX9_act 7 = .ok (.invokevirtual 36, 3) := by decide +kernel
theorem dX9_act_10 : decode cX9_act 10 = .ok (.ireturn, 1) := by decide +kernel
theorem dX9_way_0 : decode cX9_way 0 = .ok (.aload_n 0, 1) := by decide +kernel
theorem dX9_way_1 : decode cX9_way 1 = .ok (.getfield 10, 3) := by decide +kernel
theorem dX9_way_4 : decode cX9_way 4 = .ok (.iload_n 1, 1) := by decide +kernel
theorem dX9_way_5 : decode cX9_way 5 = .ok (.iload_n 2, 1) := by decide +kernel
theorem dX9_way_6 : decode cX9_way 6 = .ok (.iload_n 3, 1) := by decide +kernel
theorem dX9_way_7 : decode cX9_way 7 = .ok (.iload 4, 2) := by decide +kernel
theorem dX9_way_9 : decode cX9_way 9 = .ok (.invokevirtual 40, 3) := by decide +kernel
theorem dX9_way_12 : decode cX9_way 12 = .ok (.ireturn, 1) := by decide +kernel
theorem dX9_token_0 : decode cX9_token 0 = .ok (.aload_n 0, 1) := by decide +kernel
theorem dX9_token_1 : decode cX9_token 1 = .ok (.getfield 10, 3) := by decide +kernel
theorem dX9_token_4 : decode cX9_token 4 = .ok (.iload_n 1, 1) := by decide +kernel
theorem dX9_token_5 : decode cX9_token 5 = .ok (.iload_n 2, 1) := by decide +kernel
theorem dX9_token_6 : decode cX9_token 6 = .ok (.iload_n 3, 1) := by decide +kernel
theorem dX9_token_7 : decode cX9_token 7 = .ok (.invokevirtual 44, 3) := by decide +kernel
theorem dX9_token_10 : decode cX9_token 10 = .ok (.ireturn, 1) := by decide +kernel
theorem dX9_clear_0 : decode cX9_clear 0 = .ok (.iload_n 1, 1) := by decide +kernel
theorem dX9_clear_1 : decode cX9_clear 1 = .ok (.ifCond .lt 8, 3) := by decide +kernel
theorem dX9_clear_4 : decode cX9_clear 4 = .ok (.iload_n 1, 1) := by decide +kernel
theorem dX9_clear_5 : decode cX9_clear 5 = .ok (.iconst 2, 1) := by decide +kernel
theorem dX9_clear_6 : decode cX9_clear 6 = .ok (.if_icmp .le 5, 3) := by decide +kernel
theorem dX9_clear_9 : decode cX9_clear 9 = .ok (.iconst 0, 1) := by decide +kernel
theorem dX9_clear_10 : decode cX9_clear 10 = .ok (.ireturn, 1) := by decide +kernel
theorem dX9_clear_11 : decode cX9_clear 11 = .ok (.aload_n 0, 1) := by decide +kernel
theorem dX9_clear_12 : decode cX9_clear 12 = .ok (.getfield 10, 3) := by decide +kernel
theorem dX9_clear_15 : decode cX9_clear 15 = .ok (.invokevirtual 47, 3) := by decide +kernel
theorem dX9_clear_18 : decode cX9_clear 18 = .ok (.iload_n 1, 1) := by decide +kernel
theorem dX9_clear_19 : decode cX9_clear 19 = .ok (.iconst 1, 1) := by decide +kernel
theorem dX9_clear_20 : decode cX9_clear 20 = .ok (.if_icmp .lt 10, 3) := by decide +kernel
theorem dX9_clear_23 : decode cX9_clear 23 = .ok (.aload_n 0, 1) := by decide +kernel
theorem dX9_clear_24 : decode cX9_clear 24 = .ok (.getfield 10, 3) := by decide +kernel
theorem dX9_clear_27 : decode cX9_clear 27 = .ok (.invokevirtual 50, 3) := by decide +kernel
theorem dX9_clear_30 : decode cX9_clear 30 = .ok (.iload_n 1, 1) := by decide +kernel
theorem dX9_clear_31 : decode cX9_clear 31 = .ok (.iconst 2, 1) := by decide +kernel
theorem dX9_clear_32 : decode cX9_clear 32 = .ok (.if_icmp .ne 10, 3) := by decide +kernel
theorem dX9_clear_35 : decode cX9_clear 35 = .ok (.aload_n 0, 1) := by decide +kernel
theorem dX9_clear_36 : decode cX9_clear 36 = .ok (.getfield 10, 3) := by decide +kernel
theorem dX9_clear_39 : decode cX9_clear 39 = .ok (.invokevirtual 53, 3) := by decide +kernel
theorem dX9_clear_42 : decode cX9_clear 42 = .ok (.aload_n 0, 1) := by decide +kernel
theorem dX9_clear_43 : decode cX9_clear 43 = .ok (.iconst 0, 1) := by decide +kernel
theorem dX9_clear_44 : decode cX9_clear 44 = .ok (.putfield 32, 3) := by decide +kernel
theorem dX9_clear_47 : decode cX9_clear 47 = .ok (.iconst 1, 1) := by decide +kernel
theorem dX9_clear_48 : decode cX9_clear 48 = .ok (.ireturn, 1) := by decide +kernel
theorem dX9_run_0 : decode cX9_run 0 = .ok (.iload_n 2, 1) := by decide +kernel
theorem dX9_run_1 : decode cX9_run 1 = .ok (.invokestatic 56, 3) := by decide +kernel
theorem dX9_run_4 : decode cX9_run 4 = .ok (.ifCond .ne 5, 3) := by decide +kernel
theorem dX9_run_7 : decode cX9_run 7 = .ok (.iconst (-1), 1) := by decide +kernel
theorem dX9_run_8 : decode cX9_run 8 = .ok (.ireturn, 1) := by decide +kernel
theorem dX9_run_9 : decode cX9_run 9 = .ok (.aload_n 0, 1) := by decide +kernel
theorem dX9_run_10 : decode cX9_run 10 = .ok (.iconst 1, 1) := by decide +kernel
theorem dX9_run_11 : decode cX9_run 11 = .ok (.putfield 32, 3) := by decide +kernel
theorem dX9_run_14 : decode cX9_run 14 = .ok (.aload_n 0, 1) := by decide +kernel
theorem dX9_run_15 : decode cX9_run 15 = .ok (.getfield 21, 3) := by decide +kernel
theorem dX9_run_18 : decode cX9_run 18 = .ok (.iload_n 1, 1) := by decide +kernel
theorem dX9_run_19 : decode cX9_run 19 = .ok (.iload_n 2, 1) := by decide +kernel
theorem dX9_run_20 : decode cX9_run 20 = .ok (.invokevirtual 60, 3) := by decide +kernel
theorem dX9_run_23 : decode cX9_run 23 = .ok (.ireturn, 1) := by decide +kernel
theorem dX9_ticks_0 : decode cX9_ticks 0 = .ok (.iload_n 1, 1) := by decide +kernel
theorem dX9_ticks_1 : decode cX9_ticks 1 = .ok (.invokestatic 56, 3) := by decide +kernel
theorem dX9_ticks_4 : decode cX9_ticks 4 = .ok (.ifCond .ne 5, 3) := by decide +kernel
theorem dX9_ticks_7 : decode cX9_ticks 7 = .ok (.iconst (-1), 1) := by decide +kernel
theorem dX9_ticks_8 : decode cX9_ticks 8 = .ok (.ireturn, 1) := by decide +kernel
theorem dX9_ticks_9 : decode cX9_ticks 9 = .ok (.aload_n 0, 1) := by decide +kernel
theorem dX9_ticks_10 : decode cX9_ticks 10 = .ok (.iconst 1, 1) := by decide +kernel
theorem dX9_ticks_11 : decode cX9_ticks 11 = .ok (.putfield 32, 3) := by decide +kernel
theorem dX9_ticks_14 : decode cX9_ticks 14 = .ok (.aload_n 0, 1) := by decide +kernel
theorem dX9_ticks_15 : decode cX9_ticks 15 = .ok (.getfield 21, 3) := by decide +kernel
theorem dX9_ticks_18 : decode cX9_ticks 18 = .ok (.iload_n 1, 1) := by decide +kernel
theorem dX9_ticks_19 : decode cX9_ticks 19 = .ok (.invokevirtual 64, 3) := by decide +kernel
theorem dX9_ticks_22 : decode cX9_ticks 22 = .ok (.ireturn, 1) := by decide +kernel
theorem dX9_about_0 : decode cX9_about 0 = .ok (.aload_n 0, 1) := by decide +kernel
theorem dX9_about_1 : decode cX9_about 1 = .ok (.getfield 32, 3) := by decide +kernel
theorem dX9_about_4 : decode cX9_about 4 = .ok (.ifCond .eq 14, 3) := by decide +kernel
theorem dX9_about_7 : decode cX9_about 7 = .ok (.aload_n 0, 1) := by decide +kernel
theorem dX9_about_8 : decode cX9_about 8 = .ok (.getfield 21, 3) := by decide +kernel
theorem dX9_about_11 : decode cX9_about 11 = .ok (.iload_n 1, 1) := by decide +kernel
theorem dX9_about_12 : decode cX9_about 12 = .ok (.invokevirtual 68, 3) := by decide +kernel
theorem dX9_about_15 : decode cX9_about 15 = .ok (.goto 4, 3) := by decide +kernel
theorem dX9_about_18 : decode cX9_about 18 = .ok (.iconst (-1), 1) := by decide +kernel
theorem dX9_about_19 : decode cX9_about 19 = .ok (.ireturn, 1) := by decide +kernel
theorem dX9_end_0 : decode cX9_end 0 = .ok (.aload_n 0, 1) := by decide +kernel
theorem dX9_end_1 : decode cX9_end 1 = .ok (.getfield 32, 3) := by decide +kernel
theorem dX9_end_4 : decode cX9_end 4 = .ok (.ifCond .eq 13, 3) := by decide +kernel
theorem dX9_end_7 : decode cX9_end 7 = .ok (.iload_n 1, 1) := by decide +kernel
theorem dX9_end_8 : decode cX9_end 8 = .ok (.ifCond .lt 9, 3) := by decide +kernel
theorem dX9_end_11 : decode cX9_end 11 = .ok (.iload_n 1, 1) := by decide +kernel
theorem dX9_end_12 : decode cX9_end 12 = .ok (.bipush 10, 2) := by decide +kernel
theorem dX9_end_14 : decode cX9_end 14 = .ok (.if_icmp .lt 5, 3) := by decide +kernel
theorem dX9_end_17 : decode cX9_end 17 = .ok (.iconst (-1), 1) := by decide +kernel
theorem dX9_end_18 : decode cX9_end 18 = .ok (.ireturn, 1) := by decide +kernel
theorem dX9_end_19 : decode cX9_end 19 = .ok (.aload_n 0, 1) := by decide +kernel
theorem dX9_end_20 : decode cX9_end 20 = .ok (.getfield 21, 3) := by decide +kernel
theorem dX9_end_23 : decode cX9_end 23 = .ok (.aload_n 0, 1) := by decide +kernel
theorem dX9_end_24 : decode cX9_end 24 = .ok (.getfield 21, 3) := by decide +kernel
theorem dX9_end_27 : decode cX9_end 27 = .ok (.getfield 71, 3) := by decide +kernel
theorem dX9_end_30 : decode cX9_end 30 = .ok (.iload_n 1, 1) := by decide +kernel
theorem dX9_end_31 : decode cX9_end 31 = .ok (.laload, 1) := by decide +kernel
theorem dX9_end_32 : decode cX9_end 32 = .ok (.iload_n 2, 1) := by decide +kernel
theorem dX9_end_33 : decode cX9_end 33 = .ok (.invokevirtual 74, 3) := by decide +kernel
theorem dX9_end_36 : decode cX9_end 36 = .ok (.ireturn, 1) := by decide +kernel
theorem dX9_fired_0 : decode cX9_fired 0 = .ok (.aload_n 0, 1) := by decide +kernel
theorem dX9_fired_1 : decode cX9_fired 1 = .ok (.getfield 32, 3) := by decide +kernel
theorem dX9_fired_4 : decode cX9_fired 4 = .ok (.ifCond .eq 26, 3) := by decide +kernel
theorem dX9_fired_7 : decode cX9_fired 7 = .ok (.aload_n 0, 1) := by decide +kernel
theorem dX9_fired_8 : decode cX9_fired 8 = .ok (.getfield 10, 3) := by decide +kernel
theorem dX9_fired_11 : decode cX9_fired 11 = .ok (.iload_n 1, 1) := by decide +kernel
theorem dX9_fired_12 : decode cX9_fired 12 = .ok (.invokevirtual 78, 3) := by decide +kernel
theorem dX9_fired_15 : decode cX9_fired 15 = .ok (.ifCond .eq 15, 3) := by decide +kernel
theorem dX9_fired_18 : decode cX9_fired 18 = .ok (.aload_n 0, 1) := by decide +kernel
theorem dX9_fired_19 : decode cX9_fired 19 = .ok (.getfield 21, 3) := by decide +kernel
theorem dX9_fired_22 : decode cX9_fired 22 = .ok (.getfield 81, 3) := by decide +kernel
theorem dX9_fired_25 : decode cX9_fired 25 = .ok (.iload_n 1, 1) := by decide +kernel
theorem dX9_fired_26 : decode cX9_fired 26 = .ok (.iaload, 1) := by decide +kernel
theorem dX9_fired_27 : decode cX9_fired 27 = .ok (.goto 4, 3) := by decide +kernel
theorem dX9_fired_30 : decode cX9_fired 30 = .ok (.iconst (-1), 1) := by decide +kernel
theorem dX9_fired_31 : decode cX9_fired 31 = .ok (.ireturn, 1) := by decide +kernel
theorem dX9_cell_0 : decode cX9_cell 0 = .ok (.aload_n 0, 1) := by decide +kernel
theorem dX9_cell_1 : decode cX9_cell 1 = .ok (.getfield 32, 3) := by decide +kernel
theorem dX9_cell_4 : decode cX9_cell 4 = .ok (.ifCond .eq 14, 3) := by decide +kernel
theorem dX9_cell_7 : decode cX9_cell 7 = .ok (.aload_n 0, 1) := by decide +kernel
theorem dX9_cell_8 : decode cX9_cell 8 = .ok (.getfield 10, 3) := by decide +kernel
theorem dX9_cell_11 : decode cX9_cell 11 = .ok (.iload_n 1, 1) := by decide +kernel
theorem dX9_cell_12 : decode cX9_cell 12 = .ok (.invokevirtual 78, 3) := by decide +kernel
theorem dX9_cell_15 : decode cX9_cell 15 = .ok (.ifCond .ne 5, 3) := by decide +kernel
theorem dX9_cell_18 : decode cX9_cell 18 = .ok (.iconst (-1), 1) := by decide +kernel
theorem dX9_cell_19 : decode cX9_cell 19 = .ok (.ireturn, 1) := by decide +kernel
theorem dX9_cell_20 : decode cX9_cell 20 = .ok (.aload_n 0, 1) := by decide +kernel
theorem dX9_cell_21 : decode cX9_cell 21 = .ok (.getfield 21, 3) := by decide +kernel
theorem dX9_cell_24 : decode cX9_cell 24 = .ok (.getfield 85, 3) := by decide +kernel
theorem dX9_cell_27 : decode cX9_cell 27 = .ok (.aload_n 0, 1) := by decide +kernel
theorem dX9_cell_28 : decode cX9_cell 28 = .ok (.getfield 21, 3) := by decide +kernel
theorem dX9_cell_31 : decode cX9_cell 31 = .ok (.getfield 85, 3) := by decide +kernel
theorem dX9_cell_34 : decode cX9_cell 34 = .ok (.getfield 89, 3) := by decide +kernel
theorem dX9_cell_37 : decode cX9_cell 37 = .ok (.iload_n 1, 1) := by decide +kernel
theorem dX9_cell_38 : decode cX9_cell 38 = .ok (.iaload, 1) := by decide +kernel
theorem dX9_cell_39 : decode cX9_cell 39 = .ok (.iload_n 2, 1) := by decide +kernel
theorem dX9_cell_40 : decode cX9_cell 40 = .ok (.invokevirtual 94, 3) := by decide +kernel
theorem dX9_cell_43 : decode cX9_cell 43 = .ok (.istore 4, 2) := by decide +kernel
theorem dX9_cell_45 : decode cX9_cell 45 = .ok (.iload 4, 2) := by decide +kernel
theorem dX9_cell_47 : decode cX9_cell 47 = .ok (.iconst (-1), 1) := by decide +kernel
theorem dX9_cell_48 : decode cX9_cell 48 = .ok (.if_icmp .ne 7, 3) := by decide +kernel
theorem dX9_cell_51 : decode cX9_cell 51 = .ok (.iconst (-1), 1) := by decide +kernel
theorem dX9_cell_52 : decode cX9_cell 52 = .ok (.goto 24, 3) := by decide +kernel
theorem dX9_cell_55 : decode cX9_cell 55 = .ok (.aload_n 0, 1) := by decide +kernel
theorem dX9_cell_56 : decode cX9_cell 56 = .ok (.getfield 21, 3) := by decide +kernel
theorem dX9_cell_59 : decode cX9_cell 59 = .ok (.aload_n 0, 1) := by decide +kernel
theorem dX9_cell_60 : decode cX9_cell 60 = .ok (.getfield 21, 3) := by decide +kernel
theorem dX9_cell_63 : decode cX9_cell 63 = .ok (.getfield 85, 3) := by decide +kernel
theorem dX9_cell_66 : decode cX9_cell 66 = .ok (.getfield 97, 3) := by decide +kernel
theorem dX9_cell_69 : decode cX9_cell 69 = .ok (.iload 4, 2) := by decide +kernel
theorem dX9_cell_71 : decode cX9_cell 71 = .ok (.laload, 1) := by decide +kernel
theorem dX9_cell_72 : decode cX9_cell 72 = .ok (.iload_n 3, 1) := by decide +kernel
theorem dX9_cell_73 : decode cX9_cell 73 = .ok (.invokevirtual 74, 3) := by decide +kernel
theorem dX9_cell_76 : decode cX9_cell 76 = .ok (.ireturn, 1) := by decide +kernel
theorem dX9_told_0 : decode cX9_told 0 = .ok (.aload_n 0, 1) := by decide +kernel
theorem dX9_told_1 : decode cX9_told 1 = .ok (.getfield 10, 3) := by decide +kernel
theorem dX9_told_4 : decode cX9_told 4 = .ok (.iload_n 1, 1) := by decide +kernel
theorem dX9_told_5 : decode cX9_told 5 = .ok (.invokevirtual 78, 3) := by decide +kernel
theorem dX9_told_8 : decode cX9_told 8 = .ok (.ifCond .ne 5, 3) := by decide +kernel
theorem dX9_told_11 : decode cX9_told 11 = .ok (.iconst (-1), 1) := by decide +kernel
theorem dX9_told_12 : decode cX9_told 12 = .ok (.ireturn, 1) := by decide +kernel
theorem dX9_told_13 : decode cX9_told 13 = .ok (.iload_n 2, 1) := by decide +kernel
theorem dX9_told_14 : decode cX9_told 14 = .ok (.tableswitch 97 0 5 #[38, 48, 58, 68, 78, 88], 38) := by decide +kernel
theorem dX9_told_52 : decode cX9_told 52 = .ok (.aload_n 0, 1) := by decide +kernel
theorem dX9_told_53 : decode cX9_told 53 = .ok (.getfield 10, 3) := by decide +kernel
theorem dX9_told_56 : decode cX9_told 56 = .ok (.getfield 100, 3) := by decide +kernel
theorem dX9_told_59 : decode cX9_told 59 = .ok (.iload_n 1, 1) := by decide +kernel
theorem dX9_told_60 : decode cX9_told 60 = .ok (.iaload, 1) := by decide +kernel
theorem dX9_told_61 : decode cX9_told 61 = .ok (.ireturn, 1) := by decide +kernel
theorem dX9_told_62 : decode cX9_told 62 = .ok (.aload_n 0, 1) := by decide +kernel
theorem dX9_told_63 : decode cX9_told 63 = .ok (.getfield 10, 3) := by decide +kernel
theorem dX9_told_66 : decode cX9_told 66 = .ok (.getfield 103, 3) := by decide +kernel
theorem dX9_told_69 : decode cX9_told 69 = .ok (.iload_n 1, 1) := by decide +kernel
theorem dX9_told_70 : decode cX9_told 70 = .ok (.iaload, 1) := by decide +kernel
theorem dX9_told_71 : decode cX9_told 71 = .ok (.ireturn, 1) := by decide +kernel
theorem dX9_told_72 : decode cX9_told 72 = .ok (.aload_n 0, 1) := by decide +kernel
theorem dX9_told_73 : decode cX9_told 73 = .ok (.getfield 10, 3) := by decide +kernel
theorem dX9_told_76 : decode cX9_told 76 = .ok (.getfield 106, 3) := by decide +kernel
theorem dX9_told_79 : decode cX9_told 79 = .ok (.iload_n 1, 1) := by decide +kernel
theorem dX9_told_80 : decode cX9_told 80 = .ok (.iaload, 1) := by decide +kernel
theorem dX9_told_81 : decode cX9_told 81 = .ok (.ireturn, 1) := by decide +kernel
theorem dX9_told_82 : decode cX9_told 82 = .ok (.aload_n 0, 1) := by decide +kernel
theorem dX9_told_83 : decode cX9_told 83 = .ok (.getfield 10, 3) := by decide +kernel
theorem dX9_told_86 : decode cX9_told 86 = .ok (.iload_n 1, 1) := by decide +kernel
theorem dX9_told_87 : decode cX9_told 87 = .ok (.iconst 0, 1) := by decide +kernel
theorem dX9_told_88 : decode cX9_told 88 = .ok (.invokevirtual 109, 3) := by decide +kernel
theorem dX9_told_91 : decode cX9_told 91 = .ok (.ireturn, 1) := by decide +kernel
theorem dX9_told_92 : decode cX9_told 92 = .ok (.aload_n 0, 1) := by decide +kernel
theorem dX9_told_93 : decode cX9_told 93 = .ok (.getfield 10, 3) := by decide +kernel
theorem dX9_told_96 : decode cX9_told 96 = .ok (.iload_n 1, 1) := by decide +kernel
theorem dX9_told_97 : decode cX9_told 97 = .ok (.iconst 1, 1) := by decide +kernel
theorem dX9_told_98 : decode cX9_told 98 = .ok (.invokevirtual 109, 3) := by decide +kernel
theorem dX9_told_101 : decode cX9_told 101 = .ok (.ireturn, 1) := by decide +kernel
theorem dX9_told_102 : decode cX9_told 102 = .ok (.aload_n 0, 1) := by decide +kernel
theorem dX9_told_103 : decode cX9_told 103 = .ok (.getfield 10, 3) := by decide +kernel
theorem dX9_told_106 : decode cX9_told 106 = .ok (.iload_n 1, 1) := by decide +kernel
theorem dX9_told_107 : decode cX9_told 107 = .ok (.invokevirtual 112, 3) := by decide +kernel
theorem dX9_told_110 : decode cX9_told 110 = .ok (.ireturn, 1) := by decide +kernel
theorem dX9_told_111 : decode cX9_told 111 = .ok (.iconst (-1), 1) := by decide +kernel
theorem dX9_told_112 : decode cX9_told 112 = .ok (.ireturn, 1) := by decide +kernel
theorem dX9_beside_0 : decode cX9_beside 0 = .ok (.iload_n 3, 1) := by decide +kernel
theorem dX9_beside_1 : decode cX9_beside 1 = .ok (.invokestatic 56, 3) := by decide +kernel
theorem dX9_beside_4 : decode cX9_beside 4 = .ok (.ifCond .ne 6, 3) := by decide +kernel
theorem dX9_beside_7 : decode cX9_beside 7 = .ok (.bipush (-2), 2) := by decide +kernel
theorem dX9_beside_9 : decode cX9_beside 9 = .ok (.ireturn, 1) := by decide +kernel
theorem dX9_beside_10 : decode cX9_beside 10 = .ok (.aload_n 0, 1) := by decide +kernel
theorem dX9_beside_11 : decode cX9_beside 11 = .ok (.iconst 1, 1) := by decide +kernel
theorem dX9_beside_12 : decode cX9_beside 12 = .ok (.putfield 32, 3) := by decide +kernel
theorem dX9_beside_15 : decode cX9_beside 15 = .ok (.aload_n 0, 1) := by decide +kernel
theorem dX9_beside_16 : decode cX9_beside 16 = .ok (.getfield 21, 3) := by decide +kernel
theorem dX9_beside_19 : decode cX9_beside 19 = .ok (.iload_n 1, 1) := by decide +kernel
theorem dX9_beside_20 : decode cX9_beside 20 = .ok (.iload_n 3, 1) := by decide +kernel
theorem dX9_beside_21 : decode cX9_beside 21 = .ok (.invokevirtual 60, 3) := by decide +kernel
theorem dX9_beside_24 : decode cX9_beside 24 = .ok (.pop, 1) := by decide +kernel
theorem dX9_beside_25 : decode cX9_beside 25 = .ok (.aload_n 0, 1) := by decide +kernel
theorem dX9_beside_26 : decode cX9_beside 26 = .ok (.getfield 21, 3) := by decide +kernel
theorem dX9_beside_29 : decode cX9_beside 29 = .ok (.aload_n 0, 1) := by decide +kernel
theorem dX9_beside_30 : decode cX9_beside 30 = .ok (.getfield 25, 3) := by decide +kernel
theorem dX9_beside_33 : decode cX9_beside 33 = .ok (.invokevirtual 115, 3) := by decide +kernel
theorem dX9_beside_36 : decode cX9_beside 36 = .ok (.aload_n 0, 1) := by decide +kernel
theorem dX9_beside_37 : decode cX9_beside 37 = .ok (.getfield 21, 3) := by decide +kernel
theorem dX9_beside_40 : decode cX9_beside 40 = .ok (.iload_n 2, 1) := by decide +kernel
theorem dX9_beside_41 : decode cX9_beside 41 = .ok (.iload_n 3, 1) := by decide +kernel
theorem dX9_beside_42 : decode cX9_beside 42 = .ok (.invokevirtual 60, 3) := by decide +kernel
theorem dX9_beside_45 : decode cX9_beside 45 = .ok (.pop, 1) := by decide +kernel
theorem dX9_beside_46 : decode cX9_beside 46 = .ok (.aload_n 0, 1) := by decide +kernel
theorem dX9_beside_47 : decode cX9_beside 47 = .ok (.getfield 21, 3) := by decide +kernel
theorem dX9_beside_50 : decode cX9_beside 50 = .ok (.aload_n 0, 1) := by decide +kernel
theorem dX9_beside_51 : decode cX9_beside 51 = .ok (.getfield 29, 3) := by decide +kernel
theorem dX9_beside_54 : decode cX9_beside 54 = .ok (.invokevirtual 115, 3) := by decide +kernel
theorem dX9_beside_57 : decode cX9_beside 57 = .ok (.aload_n 0, 1) := by decide +kernel
theorem dX9_beside_58 : decode cX9_beside 58 = .ok (.invokevirtual 119, 3) := by decide +kernel
theorem dX9_beside_61 : decode cX9_beside 61 = .ok (.ireturn, 1) := by decide +kernel
theorem dX9_isFuel_0 : decode cX9_isFuel 0 = .ok (.iload_n 0, 1) := by decide +kernel
theorem dX9_isFuel_1 : decode cX9_isFuel 1 = .ok (.ifCond .lt 14, 3) := by decide +kernel
theorem dX9_isFuel_4 : decode cX9_isFuel 4 = .ok (.iload_n 0, 1) := by decide +kernel
theorem dX9_isFuel_5 : decode cX9_isFuel 5 = .ok (.sipush 4000, 3) := by decide +kernel
theorem dX9_isFuel_8 : decode cX9_isFuel 8 = .ok (.if_icmp .gt 7, 3) := by decide +kernel
theorem dX9_isFuel_11 : decode cX9_isFuel 11 = .ok (.iconst 1, 1) := by decide +kernel
theorem dX9_isFuel_12 : decode cX9_isFuel 12 = .ok (.goto 4, 3) := by decide +kernel
theorem dX9_isFuel_15 : decode cX9_isFuel 15 = .ok (.iconst 0, 1) := by decide +kernel
theorem dX9_isFuel_16 : decode cX9_isFuel 16 = .ok (.ireturn, 1) := by decide +kernel
theorem dX9_firstDifference_0 : decode cX9_firstDifference 0 = .ok (.aload_n 0, 1) := by decide +kernel
theorem dX9_firstDifference_1 : decode cX9_firstDifference 1 = .ok (.getfield 25, 3) := by decide +kernel
theorem dX9_firstDifference_4 : decode cX9_firstDifference 4 = .ok (.iconst 0, 1) := by decide +kernel
theorem dX9_firstDifference_5 : decode cX9_firstDifference 5 = .ok (.laload, 1) := by decide +kernel
theorem dX9_firstDifference_6 : decode cX9_firstDifference 6 = .ok (.lconst 0, 1) := by decide +kernel
theorem dX9_firstDifference_7 : decode cX9_firstDifference 7 = .ok (.lcmp, 1) := by decide +kernel
theorem dX9_firstDifference_8 : decode cX9_firstDifference 8 = .ok (.ifCond .ne 18, 3) := by decide +kernel
theorem dX9_firstDifference_11 : decode cX9_firstDifference 11 = .ok (.aload_n 0, 1) := by decide +kernel
theorem dX9_firstDifference_12 : decode cX9_firstDifference 12 = .ok (.getfield 29, 3) := by decide +kernel
theorem dX9_firstDifference_15 : decode cX9_firstDifference 15 = .ok (.iconst 0, 1) := by decide +kernel
theorem dX9_firstDifference_16 : decode cX9_firstDifference 16 = .ok (.laload, 1) := by decide +kernel
theorem dX9_firstDifference_17 : decode cX9_firstDifference 17 = .ok (.lconst 0, 1) := by decide +kernel
theorem dX9_firstDifference_18 : decode cX9_firstDifference 18 = .ok (.lcmp, 1) := by decide +kernel
theorem dX9_firstDifference_19 : decode cX9_firstDifference 19 = .ok (.ifCond .ne 7, 3) := by decide +kernel
theorem dX9_firstDifference_22 : decode cX9_firstDifference 22 = .ok (.iconst 1, 1) := by decide +kernel
theorem dX9_firstDifference_23 : decode cX9_firstDifference 23 = .ok (.goto 4, 3) := by decide +kernel
theorem dX9_firstDifference_26 : decode cX9_firstDifference 26 = .ok (.iconst 0, 1) := by decide +kernel
theorem dX9_firstDifference_27 : decode cX9_firstDifference 27 = .ok (.istore_n 1, 1) := by decide +kernel
theorem dX9_firstDifference_28 : decode cX9_firstDifference 28 = .ok (.iload_n 1, 1) := by decide +kernel
theorem dX9_firstDifference_29 : decode cX9_firstDifference 29 = .ok (.ifCond .eq 8, 3) := by decide +kernel
theorem dX9_firstDifference_32 : decode cX9_firstDifference 32 = .ok (.bipush 100, 2) := by decide +kernel
theorem dX9_firstDifference_34 : decode cX9_firstDifference 34 = .ok (.goto 4, 3) := by decide +kernel
theorem dX9_firstDifference_37 : decode cX9_firstDifference 37 = .ok (.iconst 1, 1) := by decide +kernel
theorem dX9_firstDifference_38 : decode cX9_firstDifference 38 = .ok (.istore_n 2, 1) := by decide +kernel
theorem dX9_firstDifference_39 : decode cX9_firstDifference 39 = .ok (.iconst 0, 1) := by decide +kernel
theorem dX9_firstDifference_40 : decode cX9_firstDifference 40 = .ok (.istore_n 3, 1) := by decide +kernel
theorem dX9_firstDifference_41 : decode cX9_firstDifference 41 = .ok (.iload_n 3, 1) := by decide +kernel
theorem dX9_firstDifference_42 : decode cX9_firstDifference 42 = .ok (.iload_n 2, 1) := by decide +kernel
theorem dX9_firstDifference_43 : decode cX9_firstDifference 43 = .ok (.if_icmp .ge 27, 3) := by decide +kernel
theorem dX9_firstDifference_46 : decode cX9_firstDifference 46 = .ok (.aload_n 0, 1) := by decide +kernel
theorem dX9_firstDifference_47 : decode cX9_firstDifference 47 = .ok (.getfield 25, 3) := by decide +kernel
theorem dX9_firstDifference_50 : decode cX9_firstDifference 50 = .ok (.iload_n 3, 1) := by decide +kernel
theorem dX9_firstDifference_51 : decode cX9_firstDifference 51 = .ok (.laload, 1) := by decide +kernel
theorem dX9_firstDifference_52 : decode cX9_firstDifference 52 = .ok (.aload_n 0, 1) := by decide +kernel
theorem dX9_firstDifference_53 : decode cX9_firstDifference 53 = .ok (.getfield 29, 3) := by decide +kernel
theorem dX9_firstDifference_56 : decode cX9_firstDifference 56 = .ok (.iload_n 3, 1) := by decide +kernel
theorem dX9_firstDifference_57 : decode cX9_firstDifference 57 = .ok (.laload, 1) := by decide +kernel
theorem dX9_firstDifference_58 : decode cX9_firstDifference 58 = .ok (.lcmp, 1) := by decide +kernel
theorem dX9_firstDifference_59 : decode cX9_firstDifference 59 = .ok (.ifCond .eq 5, 3) := by decide +kernel
theorem dX9_firstDifference_62 : decode cX9_firstDifference 62 = .ok (.iload_n 3, 1) := by decide +kernel
theorem dX9_firstDifference_63 : decode cX9_firstDifference 63 = .ok (.ireturn, 1) := by decide +kernel
theorem dX9_firstDifference_64 : decode cX9_firstDifference 64 = .ok (.iinc 3 1, 3) := by decide +kernel
theorem dX9_firstDifference_67 : decode cX9_firstDifference 67 = .ok (.goto (-26), 3) := by decide +kernel
theorem dX9_firstDifference_70 : decode cX9_firstDifference 70 = .ok (.iconst (-1), 1) := by decide +kernel
theorem dX9_firstDifference_71 : decode cX9_firstDifference 71 = .ok (.ireturn, 1) := by decide +kernel
theorem dX10_init_0 : decode cX10_init 0 = .ok (.aload_n 0, 1) := by decide +kernel
theorem dX10_init_1 : decode cX10_init 1 = .ok (.invokespecial 1, 3) := by decide +kernel
theorem dX10_init_4 : decode cX10_init 4 = .ok (.aload_n 0, 1) := by decide +kernel
theorem dX10_init_5 : decode cX10_init 5 = .ok (.bipush 80, 2) := by decide +kernel
theorem dX10_init_7 : decode cX10_init 7 = .ok (.newarray .int, 2) := by decide +kernel
theorem dX10_init_9 : decode cX10_init 9 = .ok (.putfield 7, 3) := by decide +kernel
theorem dX10_init_12 : decode cX10_init 12 = .ok (.aload_n 0, 1) := by decide +kernel
theorem dX10_init_13 : decode cX10_init 13 = .ok (.bipush 80, 2) := by decide +kernel
theorem dX10_init_15 : decode cX10_init 15 = .ok (.newarray .int, 2) := by decide +kernel
theorem dX10_init_17 : decode cX10_init 17 = .ok (.putfield 13, 3) := by decide +kernel
theorem dX10_init_20 : decode cX10_init 20 = .ok (.aload_n 0, 1) := by decide +kernel
theorem dX10_init_21 : decode cX10_init 21 = .ok (.bipush 80, 2) := by decide +kernel
theorem dX10_init_23 : decode cX10_init 23 = .ok (.newarray .int, 2) := by decide +kernel
theorem dX10_init_25 : decode cX10_init 25 = .ok (.putfield 16, 3) := by decide +kernel
theorem dX10_init_28 : decode cX10_init 28 = .ok (.aload_n 0, 1) := by decide +kernel
theorem dX10_init_29 : decode cX10_init 29 = .ok (.sipush 300, 3) := by decide +kernel
theorem dX10_init_32 : decode cX10_init 32 = .ok (.newarray .int, 2) := by decide +kernel
theorem dX10_init_34 : decode cX10_init 34 = .ok (.putfield 19, 3) := by decide +kernel
theorem dX10_init_37 : decode cX10_init 37 = .ok (.aload_n 0, 1) := by decide +kernel
theorem dX10_init_38 : decode cX10_init 38 = .ok (.sipush 300, 3) := by decide +kernel
theorem dX10_init_41 : decode cX10_init 41 = .ok (.newarray .int, 2) := by decide +kernel
theorem dX10_init_43 : decode cX10_init 43 = .ok (.putfield 22, 3) := by decide +kernel
theorem dX10_init_46 : decode cX10_init 46 = .ok (.aload_n 0, 1) := by decide +kernel
theorem dX10_init_47 : decode cX10_init 47 = .ok (.sipush 300, 3) := by decide +kernel
theorem dX10_init_50 : decode cX10_init 50 = .ok (.newarray .int, 2) := by decide +kernel
theorem dX10_init_52 : decode cX10_init 52 = .ok (.putfield 25, 3) := by decide +kernel
theorem dX10_init_55 : decode cX10_init 55 = .ok (.aload_n 0, 1) := by decide +kernel
theorem dX10_init_56 : decode cX10_init 56 = .ok (.sipush 300, 3) := by decide +kernel
theorem dX10_init_59 : decode cX10_init 59 = .ok (.newarray .int, 2) := by decide +kernel
theorem dX10_init_61 : decode cX10_init 61 = .ok (.putfield 28, 3) := by decide +kernel
theorem dX10_init_64 : decode cX10_init 64 = .ok (.aload_n 0, 1) := by decide +kernel
theorem dX10_init_65 : decode cX10_init 65 = .ok (.bipush 40, 2) := by decide +kernel
theorem dX10_init_67 : decode cX10_init 67 = .ok (.newarray .int, 2) := by decide +kernel
theorem dX10_init_69 : decode cX10_init 69 = .ok (.putfield 31, 3) := by decide +kernel
theorem dX10_init_72 : decode cX10_init 72 = .ok (.aload_n 0, 1) := by decide +kernel
theorem dX10_init_73 : decode cX10_init 73 = .ok (.bipush 40, 2) := by decide +kernel
theorem dX10_init_75 : decode cX10_init 75 = .ok (.newarray .int, 2) := by decide +kernel
theorem dX10_init_77 : decode cX10_init 77 = .ok (.putfield 34, 3) := by decide +kernel
theorem dX10_init_80 : decode cX10_init 80 = .ok (.aload_n 0, 1) := by decide +kernel
theorem dX10_init_81 : decode cX10_init 81 = .ok (.bipush 40, 2) := by decide +kernel
theorem dX10_init_83 : decode cX10_init 83 = .ok (.newarray .int, 2) := by decide +kernel
theorem dX10_init_85 : decode cX10_init 85 = .ok (.putfield 37, 3) := by decide +kernel
theorem dX10_init_88 : decode cX10_init 88 = .ok (.aload_n 0, 1) := by decide +kernel
theorem dX10_init_89 : decode cX10_init 89 = .ok (.sipush 600, 3) := by decide +kernel
theorem dX10_init_92 : decode cX10_init 92 = .ok (.newarray .int, 2) := by decide +kernel
theorem dX10_init_94 : decode cX10_init 94 = .ok (.putfield 40, 3) := by decide +kernel
theorem dX10_init_97 : decode cX10_init 97 = .ok (.aload_n 0, 1) := by decide +kernel
theorem dX10_init_98 : decode cX10_init 98 = .ok (.sipush 600, 3) := by decide +kernel
theorem dX10_init_101 : decode cX10_init 101 = .ok (.newarray .int, 2) := by decide +kernel
theorem dX10_init_103 : decode cX10_init 103 = .ok (.putfield 43, 3) := by decide +kernel
theorem dX10_init_106 : decode cX10_init 106 = .ok (.aload_n 0, 1) := by decide +kernel
theorem dX10_init_107 : decode cX10_init 107 = .ok (.sipush 600, 3) := by decide +kernel
theorem dX10_init_110 : decode cX10_init 110 = .ok (.newarray .int, 2) := by decide +kernel
theorem dX10_init_112 : decode cX10_init 112 = .ok (.putfield 46, 3) := by decide +kernel
theorem dX10_init_115 : decode cX10_init 115 = .ok (.aload_n 0, 1) := by decide +kernel
theorem dX10_init_116 : decode cX10_init 116 = .ok (.sipush 600, 3) := by decide +kernel
theorem dX10_init_119 : decode cX10_init 119 = .ok (.newarray .int, 2) := by decide +kernel
theorem dX10_init_121 : decode cX10_init 121 = .ok (.putfield 49, 3) := by decide +kernel
theorem dX10_init_124 : decode cX10_init 124 = .ok (.aload_n 0, 1) := by decide +kernel
theorem dX10_init_125 : decode cX10_init 125 = .ok (.sipush 3000, 3) := by decide +kernel
theorem dX10_init_128 : decode cX10_init 128 = .ok (.newarray .int, 2) := by decide +kernel
theorem dX10_init_130 : decode cX10_init 130 = .ok (.putfield 52, 3) := by decide +kernel
theorem dX10_init_133 : decode cX10_init 133 = .ok (.aload_n 0, 1) := by decide +kernel
theorem dX10_init_134 : decode cX10_init 134 = .ok (.sipush 3000, 3) := by decide +kernel
theorem dX10_init_137 : decode cX10_init 137 = .ok (.newarray .int, 2) := by decide +kernel
theorem dX10_init_139 : decode cX10_init 139 = .ok (.putfield 55, 3) := by decide +kernel
theorem dX10_init_142 : decode cX10_init 142 = .ok (.aload_n 0, 1) := by decide +kernel
theorem dX10_init_143 : decode cX10_init 143 = .ok (.sipush 3000, 3) := by decide +kernel
theorem dX10_init_146 : decode cX10_init 146 = .ok (.newarray .int, 2) := by decide +kernel
theorem dX10_init_148 : decode cX10_init 148 = .ok (.putfield 58, 3) := by decide +kernel
theorem dX10_init_151 : decode cX10_init 151 = .ok (.aload_n 0, 1) := by decide +kernel
theorem dX10_init_152 : decode cX10_init 152 = .ok (.sipush 3000, 3) := by decide +kernel
theorem dX10_init_155 : decode cX10_init 155 = .ok (.newarray .int, 2) := by decide +kernel
theorem dX10_init_157 : decode cX10_init 157 = .ok (.putfield 61, 3) := by decide +kernel
theorem dX10_init_160 : decode cX10_init 160 = .ok (.aload_n 0, 1) := by decide +kernel
theorem dX10_init_161 : decode cX10_init 161 = .ok (.sipush 3000, 3) := by decide +kernel
theorem dX10_init_164 : decode cX10_init 164 = .ok (.newarray .int, 2) := by decide +kernel
theorem dX10_init_166 : decode cX10_init 166 = .ok (.putfield 64, 3) := by decide +kernel
theorem dX10_init_169 : decode cX10_init 169 = .ok (.aload_n 0, 1) := by decide +kernel
theorem dX10_init_170 : decode cX10_init 170 = .ok (.sipush 9000, 3) := by decide +kernel
theorem dX10_init_173 : decode cX10_init 173 = .ok (.newarray .int, 2) := by decide +kernel
theorem dX10_init_175 : decode cX10_init 175 = .ok (.putfield 67, 3) := by decide +kernel
theorem dX10_init_178 : decode cX10_init 178 = .ok (.aload_n 0, 1) := by decide +kernel
theorem dX10_init_179 : decode cX10_init 179 = .ok (.sipush 9000, 3) := by decide +kernel
theorem dX10_init_182 : decode cX10_init 182 = .ok (.newarray .int, 2) := by decide +kernel
theorem dX10_init_184 : decode cX10_init 184 = .ok (.putfield 70, 3) := by decide +kernel
theorem dX10_init_187 : decode cX10_init 187 = .ok (.aload_n 0, 1) := by decide +kernel
theorem dX10_init_188 : decode cX10_init 188 = .ok (.sipush 9000, 3) := by decide +kernel
theorem dX10_init_191 : decode cX10_init 191 = .ok (.newarray .int, 2) := by decide +kernel
theorem dX10_init_193 : decode cX10_init 193 = .ok (.putfield 73, 3) := by decide +kernel
theorem dX10_init_196 : decode cX10_init 196 = .ok (.aload_n 0, 1) := by decide +kernel
theorem dX10_init_197 : decode cX10_init 197 = .ok (.bipush 80, 2) := by decide +kernel
theorem dX10_init_199 : decode cX10_init 199 = .ok (.newarray .int, 2) := by decide +kernel
theorem dX10_init_201 : decode cX10_init 201 = .ok (.putfield 76, 3) := by decide +kernel
theorem dX10_init_204 : decode cX10_init 204 = .ok (.aload_n 0, 1) := by decide +kernel
theorem dX10_init_205 : decode cX10_init 205 = .ok (.bipush 80, 2) := by decide +kernel
theorem dX10_init_207 : decode cX10_init 207 = .ok (.newarray .int, 2) := by decide +kernel
theorem dX10_init_209 : decode cX10_init 209 = .ok (.putfield 79, 3) := by decide +kernel
theorem dX10_init_212 : decode cX10_init 212 = .ok (.aload_n 0, 1) := by decide +kernel
theorem dX10_init_213 : decode cX10_init 213 = .ok (.sipush 3000, 3) := by decide +kernel
theorem dX10_init_216 : decode cX10_init 216 = .ok (.newarray .int, 2) := by decide +kernel
theorem dX10_init_218 : decode cX10_init 218 = .ok (.putfield 82, 3) := by decide +kernel
theorem dX10_init_221 : decode cX10_init 221 = .ok (.aload_n 0, 1) := by decide +kernel
theorem dX10_init_222 : decode cX10_init 222 = .ok (.sipush 300, 3) := by decide +kernel
theorem dX10_init_225 : decode cX10_init 225 = .ok (.newarray .int, 2) := by decide +kernel
theorem dX10_init_227 : decode cX10_init 227 = .ok (.putfield 85, 3) := by decide +kernel
theorem dX10_init_230 : decode cX10_init 230 = .ok (.aload_n 0, 1) := by decide +kernel
theorem dX10_init_231 : decode cX10_init 231 = .ok (.sipush 300, 3) := by decide +kernel
theorem dX10_init_234 : decode cX10_init 234 = .ok (.newarray .int, 2) := by decide +kernel
theorem dX10_init_236 : decode cX10_init 236 = .ok (.putfield 88, 3) := by decide +kernel
theorem dX10_init_239 : decode cX10_init 239 = .ok (.aload_n 0, 1) := by decide +kernel
theorem dX10_init_240 : decode cX10_init 240 = .ok (.sipush 300, 3) := by decide +kernel
theorem dX10_init_243 : decode cX10_init 243 = .ok (.newarray .int, 2) := by decide +kernel
theorem dX10_init_245 : decode cX10_init 245 = .ok (.putfield 91, 3) := by decide +kernel
theorem dX10_init_248 : decode cX10_init 248 = .ok (.aload_n 0, 1) := by decide +kernel
theorem dX10_init_249 : decode cX10_init 249 = .ok (.sipush 300, 3) := by decide +kernel
theorem dX10_init_252 : decode cX10_init 252 = .ok (.newarray .int, 2) := by decide +kernel
theorem dX10_init_254 : decode cX10_init 254 = .ok (.putfield 94, 3) := by decide +kernel
theorem dX10_init_257 : decode cX10_init 257 = .ok (.aload_n 0, 1) := by decide +kernel
theorem dX10_init_258 : decode cX10_init 258 = .ok (.sipush 2000, 3) := by decide +kernel
theorem dX10_init_261 : decode cX10_init 261 = .ok (.newarray .int, 2) := by decide +kernel
theorem dX10_init_263 : decode cX10_init 263 = .ok (.putfield 97, 3) := by decide +kernel
theorem dX10_init_266 : decode cX10_init 266 = .ok (.aload_n 0, 1) := by decide +kernel
theorem dX10_init_267 : decode cX10_init 267 = .ok (.sipush 2000, 3) := by decide +kernel
theorem dX10_init_270 : decode cX10_init 270 = .ok (.newarray .int, 2) := by decide +kernel
theorem dX10_init_272 : decode cX10_init 272 = .ok (.putfield 100, 3) := by decide +kernel
theorem dX10_init_275 : decode cX10_init 275 = .ok (.aload_n 0, 1) := by decide +kernel
theorem dX10_init_276 : decode cX10_init 276 = .ok (.sipush 2000, 3) := by decide +kernel
theorem dX10_init_279 : decode cX10_init 279 = .ok (.newarray .int, 2) := by decide +kernel
theorem dX10_init_281 : decode cX10_init 281 = .ok (.putfield 103, 3) := by decide +kernel
theorem dX10_init_284 : decode cX10_init 284 = .ok (.aload_n 0, 1) := by decide +kernel
theorem dX10_init_285 : decode cX10_init 285 = .ok (.sipush 3000, 3) := by decide +kernel
theorem dX10_init_288 : decode cX10_init 288 = .ok (.newarray .int, 2) := by decide +kernel
theorem dX10_init_290 : decode cX10_init 290 = .ok (.putfield 106, 3) := by decide +kernel
theorem dX10_init_293 : decode cX10_init 293 = .ok (.aload_n 0, 1) := by decide +kernel
theorem dX10_init_294 : decode cX10_init 294 = .ok (.sipush 3000, 3) := by decide +kernel
theorem dX10_init_297 : decode cX10_init 297 = .ok (.newarray .int, 2) := by decide +kernel
theorem dX10_init_299 : decode cX10_init 299 = .ok (.putfield 109, 3) := by decide +kernel
theorem dX10_init_302 : decode cX10_init 302 = .ok (.aload_n 0, 1) := by decide +kernel
theorem dX10_init_303 : decode cX10_init 303 = .ok (.bipush 10, 2) := by decide +kernel
theorem dX10_init_305 : decode cX10_init 305 = .ok (.newarray .int, 2) := by decide +kernel
theorem dX10_init_307 : decode cX10_init 307 = .ok (.putfield 112, 3) := by decide +kernel
theorem dX10_init_310 : decode cX10_init 310 = .ok (.aload_n 0, 1) := by decide +kernel
theorem dX10_init_311 : decode cX10_init 311 = .ok (.bipush 10, 2) := by decide +kernel
theorem dX10_init_313 : decode cX10_init 313 = .ok (.newarray .int, 2) := by decide +kernel
theorem dX10_init_315 : decode cX10_init 315 = .ok (.putfield 115, 3) := by decide +kernel
theorem dX10_init_318 : decode cX10_init 318 = .ok (.aload_n 0, 1) := by decide +kernel
theorem dX10_init_319 : decode cX10_init 319 = .ok (.bipush 10, 2) := by decide +kernel
theorem dX10_init_321 : decode cX10_init 321 = .ok (.newarray .int, 2) := by decide +kernel
theorem dX10_init_323 : decode cX10_init 323 = .ok (.putfield 118, 3) := by decide +kernel
theorem dX10_init_326 : decode cX10_init 326 = .ok (.aload_n 0, 1) := by decide +kernel
theorem dX10_init_327 : decode cX10_init 327 = .ok (.bipush 116, 2) := by decide +kernel
theorem dX10_init_329 : decode cX10_init 329 = .ok (.newarray .int, 2) := by decide +kernel
theorem dX10_init_331 : decode cX10_init 331 = .ok (.putfield 121, 3) := by decide +kernel
theorem dX10_init_334 : decode cX10_init 334 = .ok (.aload_n 0, 1) := by decide +kernel
theorem dX10_init_335 : decode cX10_init 335 = .ok (.bipush 116, 2) := by decide +kernel
theorem dX10_init_337 : decode cX10_init 337 = .ok (.newarray .int, 2) := by decide +kernel
theorem dX10_init_339 : decode cX10_init 339 = .ok (.putfield 124, 3) := by decide +kernel
theorem dX10_init_342 : decode cX10_init 342 = .ok (.return_, 1) := by decide +kernel
theorem dX10_in_0 : decode cX10_in 0 = .ok (.iload_n 0, 1) := by decide +kernel
theorem dX10_in_1 : decode cX10_in 1 = .ok (.iload_n 1, 1) := by decide +kernel
theorem dX10_in_2 : decode cX10_in 2 = .ok (.if_icmp .lt 12, 3) := by decide +kernel
theorem dX10_in_5 : decode cX10_in 5 = .ok (.iload_n 0, 1) := by decide +kernel
theorem dX10_in_6 : decode cX10_in 6 = .ok (.iload_n 2, 1) := by decide +kernel
theorem dX10_in_7 : decode cX10_in 7 = .ok (.if_icmp .gt 7, 3) := by decide +kernel
theorem dX10_in_10 : decode cX10_in 10 = .ok (.iconst 1, 1) := by decide +kernel
theorem dX10_in_11 : decode cX10_in 11 = .ok (.goto 4, 3) := by decide +kernel
theorem dX10_in_14 : decode cX10_in 14 = .ok (.iconst 0, 1) := by decide +kernel
theorem dX10_in_15 : decode cX10_in 15 = .ok (.ireturn, 1) := by decide +kernel
theorem dX10_isAct_0 : decode cX10_isAct 0 = .ok (.iload_n 1, 1) := by decide +kernel
theorem dX10_isAct_1 : decode cX10_isAct 1 = .ok (.iconst 0, 1) := by decide +kernel
theorem dX10_isAct_2 : decode cX10_isAct 2 = .ok (.aload_n 0, 1) := by decide +kernel
theorem dX10_isAct_3 : decode cX10_isAct 3 = .ok (.getfield 127, 3) := by decide +kernel
theorem dX10_isAct_6 : decode cX10_isAct 6 = .ok (.iconst 1, 1) := by decide +kernel
theorem dX10_isAct_7 : decode cX10_isAct 7 = .ok (.isub, 1) := by decide +kernel
theorem dX10_isAct_8 : decode cX10_isAct 8 = .ok (.invokestatic 131, 3) := by decide +kernel
theorem dX10_isAct_11 : decode cX10_isAct 11 = .ok (.ireturn, 1) := by decide +kernel
theorem dX10_portsOf_0 : decode cX10_portsOf 0 = .ok (.iload_n 0, 1) := by decide +kernel
theorem dX10_portsOf_1 : decode cX10_portsOf 1 = .ok (.bipush 14, 2) := by decide +kernel
theorem dX10_portsOf_3 : decode cX10_portsOf 3 = .ok (.if_icmp .ne 5, 3) := by decide +kernel
theorem dX10_portsOf_6 : decode cX10_portsOf 6 = .ok (.iload_n 1, 1) := by decide +kernel
theorem dX10_portsOf_7 : decode cX10_portsOf 7 = .ok (.ireturn, 1) := by decide +kernel
theorem dX10_portsOf_8 : decode cX10_portsOf 8 = .ok (.iload_n 0, 1) := by decide +kernel
theorem dX10_portsOf_9 : decode cX10_portsOf 9 = .ok (.bipush 19, 2) := by decide +kernel
theorem dX10_portsOf_11 : decode cX10_portsOf 11 = .ok (.if_icmp .ne 5, 3) := by decide +kernel
theorem dX10_portsOf_14 : decode cX10_portsOf 14 = .ok (.iconst 3, 1) := by decide +kernel
theorem dX10_portsOf_15 : decode cX10_portsOf 15 = .ok (.ireturn, 1) := by decide +kernel
theorem dX10_portsOf_16 : decode cX10_portsOf 16 = .ok (.iload_n 0, 1) := by decide +kernel
theorem dX10_portsOf_17 : decode cX10_portsOf 17 = .ok (.iconst 2, 1) := by decide +kernel
theorem dX10_portsOf_18 : decode cX10_portsOf 18 = .ok (.bipush 8, 2) := by decide +kernel
theorem dX10_portsOf_20 : decode cX10_portsOf 20 = .ok (.invokestatic 131, 3) := by decide +kernel
theorem dX10_portsOf_23 : decode cX10_portsOf 23 = .ok (.ifCond .ne 15, 3) := by decide +kernel
theorem dX10_portsOf_26 : decode cX10_portsOf 26 = .ok (.iload_n 0, 1) := by decide +kernel
theorem dX10_portsOf_27 : decode cX10_portsOf 27 = .ok (.bipush 10, 2) := by decide +kernel
theorem dX10_portsOf_29 : decode cX10_portsOf 29 = .ok (.if_icmp .eq 9, 3) := by decide +kernel
theorem dX10_portsOf_32 : decode cX10_portsOf 32 = .ok (.iload_n 0, 1) := by decide +kernel
theorem dX10_portsOf_33 : decode cX10_portsOf 33 = .ok (.bipush 18, 2) := by decide +kernel
theorem dX10_portsOf_35 : decode cX10_portsOf 35 = .ok (.if_icmp .ne 7, 3) := by decide +kernel
theorem dX10_portsOf_38 : decode cX10_portsOf 38 = .ok (.iconst 2, 1) := by decide +kernel
theorem dX10_portsOf_39 : decode cX10_portsOf 39 = .ok (.goto 4, 3) := by decide +kernel
theorem dX10_portsOf_42 : decode cX10_portsOf 42 = .ok (.iconst 1, 1) := by decide +kernel
theorem dX10_portsOf_43 : decode cX10_portsOf 43 = .ok (.ireturn, 1) := by decide +kernel
theorem dX10_act_0 : decode cX10_act 0 = .ok (.iload_n 1, 1) := by decide +kernel
theorem dX10_act_1 : decode cX10_act 1 = .ok (.iconst 0, 1) := by decide +kernel
theorem dX10_act_2 : decode cX10_act 2 = .ok (.bipush 21, 2) := by decide +kernel
theorem dX10_act_4 : decode cX10_act 4 = .ok (.invokestatic 131, 3) := by decide +kernel
theorem dX10_act_7 : decode cX10_act 7 = .ok (.ifCond .eq 12, 3) := by decide +kernel
theorem dX10_act_10 : decode cX10_act 10 = .ok (.aload_n 0, 1) := by decide +kernel
theorem dX10_act_11 : decode cX10_act 11 = .ok (.getfield 127, 3) := by decide +kernel
theorem dX10_act_14 : decode cX10_act 14 = .ok (.bipush 80, 2) := by decide +kernel
theorem dX10_act_16 : decode cX10_act 16 = .ok (.if_icmp .ne 5, 3) := by decide +kernel
theorem dX10_act_19 : decode cX10_act 19 = .ok (.iconst (-1), 1) := by decide +kernel
theorem dX10_act_20 : decode cX10_act 20 = .ok (.ireturn, 1) := by decide +kernel
theorem dX10_act_21 : decode cX10_act 21 = .ok (.iload_n 1, 1) := by decide +kernel
theorem dX10_act_22 : decode cX10_act 22 = .ok (.bipush 11, 2) := by decide +kernel
theorem dX10_act_24 : decode cX10_act 24 = .ok (.bipush 14, 2) := by decide +kernel
theorem dX10_act_26 : decode cX10_act 26 = .ok (.invokestatic 131, 3) := by decide +kernel
theorem dX10_act_29 : decode cX10_act 29 = .ok (.ifCond .ne 9, 3) := by decide +kernel
theorem dX10_act_32 : decode cX10_act 32 = .ok (.iload_n 1, 1) := by decide +kernel
theorem dX10_act_33 : decode cX10_act 33 = .ok (.bipush 21, 2) := by decide +kernel
theorem dX10_act_35 : decode cX10_act 35 = .ok (.if_icmp .ne 15, 3) := by decide +kernel
theorem dX10_act_38 : decode cX10_act 38 = .ok (.iload_n 2, 1) := by decide +kernel
theorem dX10_act_39 : decode cX10_act 39 = .ok (.iconst 0, 1) := by decide +kernel
theorem dX10_act_40 : decode cX10_act 40 = .ok (.bipush 9, 2) := by decide +kernel
theorem dX10_act_42 : decode cX10_act 42 = .ok (.invokestatic 131, 3) := by decide +kernel
theorem dX10_act_45 : decode cX10_act 45 = .ok (.ifCond .ne 5, 3) := by decide +kernel
theorem dX10_act_48 : decode cX10_act 48 = .ok (.iconst (-1), 1) := by decide +kernel
theorem dX10_act_49 : decode cX10_act 49 = .ok (.ireturn, 1) := by decide +kernel
theorem dX10_act_50 : decode cX10_act 50 = .ok (.iload_n 1, 1) := by decide +kernel
theorem dX10_act_51 : decode cX10_act 51 = .ok (.bipush 15, 2) := by decide +kernel
theorem dX10_act_53 : decode cX10_act 53 = .ok (.if_icmp .ne 23, 3) := by decide +kernel
theorem dX10_act_56 : decode cX10_act 56 = .ok (.iload_n 2, 1) := by decide +kernel
theorem dX10_act_57 : decode cX10_act 57 = .ok (.iconst 0, 1) := by decide +kernel
theorem dX10_act_58 : decode cX10_act 58 = .ok (.bipush 99, 2) := by decide +kernel
theorem dX10_act_60 : decode cX10_act 60 = .ok (.invokestatic 131, 3) := by decide +kernel
theorem dX10_act_63 : decode cX10_act 63 = .ok (.ifCond .eq 11, 3) := by decide +kernel
theorem dX10_act_66 : decode cX10_act 66 = .ok (.iload_n 2, 1) := by decide +kernel
theorem dX10_act_67 : decode cX10_act 67 = .ok (.bipush 10, 2) := by decide +kernel
theorem dX10_act_69 : decode cX10_act 69 = .ok (.irem, 1) := by decide +kernel
theorem dX10_act_70 : decode cX10_act 70 = .ok (.iconst 2, 1) := by decide +kernel
theorem dX10_act_71 : decode cX10_act 71 = .ok (.if_icmp .le 5, 3) := by decide +kernel
theorem dX10_act_74 : decode cX10_act 74 = .ok (.iconst (-1), 1) := by decide +kernel
theorem dX10_act_75 : decode cX10_act 75 = .ok (.ireturn, 1) := by decide +kernel
theorem dX10_act_76 : decode cX10_act 76 = .ok (.iload_n 1, 1) := by decide +kernel
theorem dX10_act_77 : decode cX10_act 77 = .ok (.bipush 14, 2) := by decide +kernel
theorem dX10_act_79 : decode cX10_act 79 = .ok (.if_icmp .ne 14, 3) := by decide +kernel
theorem dX10_act_82 : decode cX10_act 82 = .ok (.iload_n 3, 1) := by decide +kernel
theorem dX10_act_83 : decode cX10_act 83 = .ok (.iconst 1, 1) := by decide +kernel
theorem dX10_act_84 : decode cX10_act 84 = .ok (.iconst 3, 1) := by decide +kernel
theorem dX10_act_85 : decode cX10_act 85 = .ok (.invokestatic 131, 3) := by decide +kernel
theorem dX10_act_88 : decode cX10_act 88 = .ok (.ifCond .ne 5, 3) := by decide +kernel
theorem dX10_act_91 : decode cX10_act 91 = .ok (.iconst (-1), 1) := by decide +kernel
theorem dX10_act_92 : decode cX10_act 92 = .ok (.ireturn, 1) := by decide +kernel
theorem dX10_act_93 : decode cX10_act 93 = .ok (.aload_n 0, 1) := by decide +kernel
theorem dX10_act_94 : decode cX10_act 94 = .ok (.getfield 7, 3) := by decide +kernel
theorem dX10_act_97 : decode cX10_act 97 = .ok (.aload_n 0, 1) := by decide +kernel
theorem dX10_act_98 : decode cX10_act 98 = .ok (.getfield 127, 3) := by decide +kernel
theorem dX10_act_101 : decode cX10_act 101 = .ok (.iload_n 1, 1) := by decide +kernel
theorem dX10_act_102 : decode cX10_act 102 = .ok (.iastore, 1) := by decide +kernel
theorem dX10_act_103 : decode cX10_act 103 = .ok (.aload_n 0, 1) := by decide +kernel
theorem dX10_act_104 : decode cX10_act 104 = .ok (.getfield 13, 3) := by decide +kernel
theorem dX10_act_107 : decode cX10_act 107 = .ok (.aload_n 0, 1) := by decide +kernel
theorem dX10_act_108 : decode cX10_act 108 = .ok (.getfield 127, 3) := by decide +kernel
theorem dX10_act_111 : decode cX10_act 111 = .ok (.iload_n 2, 1) := by decide +kernel
theorem dX10_act_112 : decode cX10_act 112 = .ok (.iastore, 1) := by decide +kernel
theorem dX10_act_113 : decode cX10_act 113 = .ok (.aload_n 0, 1) := by decide +kernel
theorem dX10_act_114 : decode cX10_act 114 = .ok (.getfield 16, 3) := by decide +kernel
theorem dX10_act_117 : decode cX10_act 117 = .ok (.aload_n 0, 1) := by decide +kernel
theorem dX10_act_118 : decode cX10_act 118 = .ok (.getfield 127, 3) := by decide +kernel
theorem dX10_act_121 : decode cX10_act 121 = .ok (.iload_n 1, 1) := by decide +kernel
theorem dX10_act_122 : decode cX10_act 122 = .ok (.iload_n 3, 1) := by decide +kernel
theorem dX10_act_123 : decode cX10_act 123 = .ok (.invokestatic 135, 3) := by decide +kernel
theorem dX10_act_126 : decode cX10_act 126 = .ok (.iastore, 1) := by decide +kernel
theorem dX10_act_127 : decode cX10_act 127 = .ok (.aload_n 0, 1) := by decide +kernel
theorem dX10_act_128 : decode cX10_act 128 = .ok (.dup, 1) := by decide +kernel
theorem dX10_act_129 : decode cX10_act 129 = .ok (.getfield 127, 3) := by decide +kernel
theorem dX10_act_132 : decode cX10_act 132 = .ok (.iconst 1, 1) := by decide +kernel
theorem dX10_act_133 : decode cX10_act 133 = .ok (.iadd, 1) := by decide +kernel
theorem dX10_act_134 : decode cX10_act 134 = .ok (.putfield 127, 3) := by decide +kernel
theorem dX10_act_137 : decode cX10_act 137 = .ok (.aload_n 0, 1) := by decide +kernel
