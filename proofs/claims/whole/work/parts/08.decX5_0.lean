theorem dX5_init_0 : decode cX5_init 0 = .ok (.aload_n 0, 1) := by decide +kernel
theorem dX5_init_1 : decode cX5_init 1 = .ok (.invokespecial 1, 3) := by decide +kernel
theorem dX5_init_4 : decode cX5_init 4 = .ok (.aload_n 0, 1) := by decide +kernel
theorem dX5_init_5 : decode cX5_init 5 = .ok (.sipush 180, 3) := by decide +kernel
theorem dX5_init_8 : decode cX5_init 8 = .ok (.newarray .int, 2) := by decide +kernel
theorem dX5_init_10 : decode cX5_init 10 = .ok (.putfield 7, 3) := by decide +kernel
theorem dX5_init_13 : decode cX5_init 13 = .ok (.aload_n 0, 1) := by decide +kernel
theorem dX5_init_14 : decode cX5_init 14 = .ok (.sipush 180, 3) := by decide +kernel
theorem dX5_init_17 : decode cX5_init 17 = .ok (.newarray .int, 2) := by decide +kernel
theorem dX5_init_19 : decode cX5_init 19 = .ok (.putfield 13, 3) := by decide +kernel
theorem dX5_init_22 : decode cX5_init 22 = .ok (.aload_n 0, 1) := by decide +kernel
theorem dX5_init_23 : decode cX5_init 23 = .ok (.iconst 3, 1) := by decide +kernel
theorem dX5_init_24 : decode cX5_init 24 = .ok (.newarray .int, 2) := by decide +kernel
theorem dX5_init_26 : decode cX5_init 26 = .ok (.putfield 16, 3) := by decide +kernel
theorem dX5_init_29 : decode cX5_init 29 = .ok (.aload_n 0, 1) := by decide +kernel
theorem dX5_init_30 : decode cX5_init 30 = .ok (.iconst 4, 1) := by decide +kernel
theorem dX5_init_31 : decode cX5_init 31 = .ok (.newarray .boolean, 2) := by decide +kernel
theorem dX5_init_33 : decode cX5_init 33 = .ok (.putfield 19, 3) := by decide +kernel
theorem dX5_init_36 : decode cX5_init 36 = .ok (.aload_n 0, 1) := by decide +kernel
theorem dX5_init_37 : decode cX5_init 37 = .ok (.iconst 4, 1) := by decide +kernel
theorem dX5_init_38 : decode cX5_init 38 = .ok (.newarray .int, 2) := by decide +kernel
theorem dX5_init_40 : decode cX5_init 40 = .ok (.putfield 23, 3) := by decide +kernel
theorem dX5_init_43 : decode cX5_init 43 = .ok (.aload_n 0, 1) := by decide +kernel
theorem dX5_init_44 : decode cX5_init 44 = .ok (.iconst 4, 1) := by decide +kernel
theorem dX5_init_45 : decode cX5_init 45 = .ok (.newarray .int, 2) := by decide +kernel
theorem dX5_init_47 : decode cX5_init 47 = .ok (.putfield 26, 3) := by decide +kernel
theorem dX5_init_50 : decode cX5_init 50 = .ok (.aload_n 0, 1) := by decide +kernel
theorem dX5_init_51 : decode cX5_init 51 = .ok (.iconst 4, 1) := by decide +kernel
theorem dX5_init_52 : decode cX5_init 52 = .ok (.newarray .int, 2) := by decide +kernel
theorem dX5_init_54 : decode cX5_init 54 = .ok (.putfield 29, 3) := by decide +kernel
theorem dX5_init_57 : decode cX5_init 57 = .ok (.aload_n 0, 1) := by decide +kernel
theorem dX5_init_58 : decode cX5_init 58 = .ok (.iconst 4, 1) := by decide +kernel
theorem dX5_init_59 : decode cX5_init 59 = .ok (.newarray .boolean, 2) := by decide +kernel
theorem dX5_init_61 : decode cX5_init 61 = .ok (.putfield 32, 3) := by decide +kernel
theorem dX5_init_64 : decode cX5_init 64 = .ok (.aload_n 0, 1) := by decide +kernel
theorem dX5_init_65 : decode cX5_init 65 = .ok (.iconst 4, 1) := by decide +kernel
theorem dX5_init_66 : decode cX5_init 66 = .ok (.newarray .boolean, 2) := by decide +kernel
theorem dX5_init_68 : decode cX5_init 68 = .ok (.putfield 35, 3) := by decide +kernel
theorem dX5_init_71 : decode cX5_init 71 = .ok (.aload_n 0, 1) := by decide +kernel
theorem dX5_init_72 : decode cX5_init 72 = .ok (.iconst 4, 1) := by decide +kernel
theorem dX5_init_73 : decode cX5_init 73 = .ok (.newarray .int, 2) := by decide +kernel
theorem dX5_init_75 : decode cX5_init 75 = .ok (.putfield 38, 3) := by decide +kernel
theorem dX5_init_78 : decode cX5_init 78 = .ok (.aload_n 0, 1) := by decide +kernel
theorem dX5_init_79 : decode cX5_init 79 = .ok (.bipush 90, 2) := by decide +kernel
theorem dX5_init_81 : decode cX5_init 81 = .ok (.newarray .char, 2) := by decide +kernel
theorem dX5_init_83 : decode cX5_init 83 = .ok (.putfield 41, 3) := by decide +kernel
theorem dX5_init_86 : decode cX5_init 86 = .ok (.aload_n 0, 1) := by decide +kernel
theorem dX5_init_87 : decode cX5_init 87 = .ok (.bipush 90, 2) := by decide +kernel
theorem dX5_init_89 : decode cX5_init 89 = .ok (.newarray .int, 2) := by decide +kernel
theorem dX5_init_91 : decode cX5_init 91 = .ok (.putfield 45, 3) := by decide +kernel
theorem dX5_init_94 : decode cX5_init 94 = .ok (.aload_n 0, 1) := by decide +kernel
theorem dX5_init_95 : decode cX5_init 95 = .ok (.bipush 90, 2) := by decide +kernel
theorem dX5_init_97 : decode cX5_init 97 = .ok (.newarray .int, 2) := by decide +kernel
theorem dX5_init_99 : decode cX5_init 99 = .ok (.putfield 48, 3) := by decide +kernel
theorem dX5_init_102 : decode cX5_init 102 = .ok (.aload_n 0, 1) := by decide +kernel
theorem dX5_init_103 : decode cX5_init 103 = .ok (.iconst 3, 1) := by decide +kernel
theorem dX5_init_104 : decode cX5_init 104 = .ok (.newarray .int, 2) := by decide +kernel
theorem dX5_init_106 : decode cX5_init 106 = .ok (.putfield 51, 3) := by decide +kernel
theorem dX5_init_109 : decode cX5_init 109 = .ok (.aload_n 0, 1) := by decide +kernel
theorem dX5_init_110 : decode cX5_init 110 = .ok (.bipush 60, 2) := by decide +kernel
theorem dX5_init_112 : decode cX5_init 112 = .ok (.newarray .int, 2) := by decide +kernel
theorem dX5_init_114 : decode cX5_init 114 = .ok (.putfield 54, 3) := by decide +kernel
theorem dX5_init_117 : decode cX5_init 117 = .ok (.aload_n 0, 1) := by decide +kernel
theorem dX5_init_118 : decode cX5_init 118 = .ok (.bipush 60, 2) := by decide +kernel
theorem dX5_init_120 : decode cX5_init 120 = .ok (.newarray .int, 2) := by decide +kernel
theorem dX5_init_122 : decode cX5_init 122 = .ok (.putfield 57, 3) := by decide +kernel
theorem dX5_init_125 : decode cX5_init 125 = .ok (.aload_n 0, 1) := by decide +kernel
theorem dX5_init_126 : decode cX5_init 126 = .ok (.iconst 0, 1) := by decide +kernel
theorem dX5_init_127 : decode cX5_init 127 = .ok (.putfield 60, 3) := by decide +kernel
theorem dX5_init_130 : decode cX5_init 130 = .ok (.return_, 1) := by decide +kernel
theorem dX5_thrown_0 : decode cX5_thrown 0 = .ok (.aload_n 0, 1) := by decide +kernel
theorem dX5_thrown_1 : decode cX5_thrown 1 = .ok (.getfield 60, 3) := by decide +kernel
theorem dX5_thrown_4 : decode cX5_thrown 4 = .ok (.ireturn, 1) := by decide +kernel
theorem dX5_refused_0 : decode cX5_refused 0 = .ok (.aload_n 0, 1) := by decide +kernel
theorem dX5_refused_1 : decode cX5_refused 1 = .ok (.iload_n 1, 1) := by decide +kernel
theorem dX5_refused_2 : decode cX5_refused 2 = .ok (.putfield 60, 3) := by decide +kernel
theorem dX5_refused_5 : decode cX5_refused 5 = .ok (.iload_n 1, 1) := by decide +kernel
theorem dX5_refused_6 : decode cX5_refused 6 = .ok (.ifCond .eq 7, 3) := by decide +kernel
theorem dX5_refused_9 : decode cX5_refused 9 = .ok (.iconst 1, 1) := by decide +kernel
theorem dX5_refused_10 : decode cX5_refused 10 = .ok (.goto 4, 3) := by decide +kernel
theorem dX5_refused_13 : decode cX5_refused 13 = .ok (.iconst 0, 1) := by decide +kernel
theorem dX5_refused_14 : decode cX5_refused 14 = .ok (.ireturn, 1) := by decide +kernel
theorem dX5_in_0 : decode cX5_in 0 = .ok (.iload_n 0, 1) := by decide +kernel
theorem dX5_in_1 : decode cX5_in 1 = .ok (.iload_n 1, 1) := by decide +kernel
theorem dX5_in_2 : decode cX5_in 2 = .ok (.if_icmp .lt 12, 3) := by decide +kernel
theorem dX5_in_5 : decode cX5_in 5 = .ok (.iload_n 0, 1) := by decide +kernel
theorem dX5_in_6 : decode cX5_in 6 = .ok (.iload_n 2, 1) := by decide +kernel
theorem dX5_in_7 : decode cX5_in 7 = .ok (.if_icmp .gt 7, 3) := by decide +kernel
theorem dX5_in_10 : decode cX5_in 10 = .ok (.iconst 1, 1) := by decide +kernel
theorem dX5_in_11 : decode cX5_in 11 = .ok (.goto 4, 3) := by decide +kernel
theorem dX5_in_14 : decode cX5_in 14 = .ok (.iconst 0, 1) := by decide +kernel
theorem dX5_in_15 : decode cX5_in 15 = .ok (.ireturn, 1) := by decide +kernel
theorem dX5_isMap_0 : decode cX5_isMap 0 = .ok (.iload_n 0, 1) := by decide +kernel
theorem dX5_isMap_1 : decode cX5_isMap 1 = .ok (.iconst 0, 1) := by decide +kernel
theorem dX5_isMap_2 : decode cX5_isMap 2 = .ok (.iconst 2, 1) := by decide +kernel
theorem dX5_isMap_3 : decode cX5_isMap 3 = .ok (.invokestatic 64, 3) := by decide +kernel
theorem dX5_isMap_6 : decode cX5_isMap 6 = .ok (.ireturn, 1) := by decide +kernel
theorem dX5_isView_0 : decode cX5_isView 0 = .ok (.iload_n 0, 1) := by decide +kernel
theorem dX5_isView_1 : decode cX5_isView 1 = .ok (.iconst 0, 1) := by decide +kernel
theorem dX5_isView_2 : decode cX5_isView 2 = .ok (.iconst 3, 1) := by decide +kernel
theorem dX5_isView_3 : decode cX5_isView 3 = .ok (.invokestatic 64, 3) := by decide +kernel
theorem dX5_isView_6 : decode cX5_isView 6 = .ok (.ireturn, 1) := by decide +kernel
theorem dX5_isHistory_0 : decode cX5_isHistory 0 = .ok (.iload_n 0, 1) := by decide +kernel
theorem dX5_isHistory_1 : decode cX5_isHistory 1 = .ok (.iconst 0, 1) := by decide +kernel
theorem dX5_isHistory_2 : decode cX5_isHistory 2 = .ok (.iconst 2, 1) := by decide +kernel
theorem dX5_isHistory_3 : decode cX5_isHistory 3 = .ok (.invokestatic 64, 3) := by decide +kernel
theorem dX5_isHistory_6 : decode cX5_isHistory 6 = .ok (.ireturn, 1) := by decide +kernel
theorem dX5_isWay_0 : decode cX5_isWay 0 = .ok (.iload_n 0, 1) := by decide +kernel
theorem dX5_isWay_1 : decode cX5_isWay 1 = .ok (.bipush 102, 2) := by decide +kernel
theorem dX5_isWay_3 : decode cX5_isWay 3 = .ok (.if_icmp .eq 21, 3) := by decide +kernel
theorem dX5_isWay_6 : decode cX5_isWay 6 = .ok (.iload_n 0, 1) := by decide +kernel
theorem dX5_isWay_7 : decode cX5_isWay 7 = .ok (.bipush 99, 2) := by decide +kernel
theorem dX5_isWay_9 : decode cX5_isWay 9 = .ok (.if_icmp .eq 15, 3) := by decide +kernel
theorem dX5_isWay_12 : decode cX5_isWay 12 = .ok (.iload_n 0, 1) := by decide +kernel
theorem dX5_isWay_13 : decode cX5_isWay 13 = .ok (.bipush 104, 2) := by decide +kernel
theorem dX5_isWay_15 : decode cX5_isWay 15 = .ok (.if_icmp .eq 9, 3) := by decide +kernel
theorem dX5_isWay_18 : decode cX5_isWay 18 = .ok (.iload_n 0, 1) := by decide +kernel
theorem dX5_isWay_19 : decode cX5_isWay 19 = .ok (.bipush 108, 2) := by decide +kernel
theorem dX5_isWay_21 : decode cX5_isWay 21 = .ok (.if_icmp .ne 7, 3) := by decide +kernel
theorem dX5_isWay_24 : decode cX5_isWay 24 = .ok (.iconst 1, 1) := by decide +kernel
theorem dX5_isWay_25 : decode cX5_isWay 25 = .ok (.goto 4, 3) := by decide +kernel
theorem dX5_isWay_28 : decode cX5_isWay 28 = .ok (.iconst 0, 1) := by decide +kernel
theorem dX5_isWay_29 : decode cX5_isWay 29 = .ok (.ireturn, 1) := by decide +kernel
theorem dX5_placeOf_0 : decode cX5_placeOf 0 = .ok (.iconst 0, 1) := by decide +kernel
theorem dX5_placeOf_1 : decode cX5_placeOf 1 = .ok (.istore_n 3, 1) := by decide +kernel
theorem dX5_placeOf_2 : decode cX5_placeOf 2 = .ok (.iload_n 3, 1) := by decide +kernel
theorem dX5_placeOf_3 : decode cX5_placeOf 3 = .ok (.aload_n 0, 1) := by decide +kernel
theorem dX5_placeOf_4 : decode cX5_placeOf 4 = .ok (.getfield 16, 3) := by decide +kernel
theorem dX5_placeOf_7 : decode cX5_placeOf 7 = .ok (.iload_n 1, 1) := by decide +kernel
theorem dX5_placeOf_8 : decode cX5_placeOf 8 = .ok (.iaload, 1) := by decide +kernel
theorem dX5_placeOf_9 : decode cX5_placeOf 9 = .ok (.if_icmp .ge 24, 3) := by decide +kernel
theorem dX5_placeOf_12 : decode cX5_placeOf 12 = .ok (.aload_n 0, 1) := by decide +kernel
theorem dX5_placeOf_13 : decode cX5_placeOf 13 = .ok (.getfield 7, 3) := by decide +kernel
theorem dX5_placeOf_16 : decode cX5_placeOf 16 = .ok (.bipush 60, 2) := by decide +kernel
theorem dX5_placeOf_18 : decode cX5_placeOf 18 = .ok (.iload_n 1, 1) := by decide +kernel
theorem dX5_placeOf_19 : decode cX5_placeOf 19 = .ok (.imul, 1) := by decide +kernel
theorem dX5_placeOf_20 : decode cX5_placeOf 20 = .ok (.iload_n 3, 1) := by decide +kernel
theorem dX5_placeOf_21 : decode cX5_placeOf 21 = .ok (.iadd, 1) := by decide +kernel
theorem dX5_placeOf_22 : decode cX5_placeOf 22 = .ok (.iaload, 1) := by decide +kernel
theorem dX5_placeOf_23 : decode cX5_placeOf 23 = .ok (.iload_n 2, 1) := by decide +kernel
theorem dX5_placeOf_24 : decode cX5_placeOf 24 = .ok (.if_icmp .ge 9, 3) := by decide +kernel
theorem dX5_placeOf_27 : decode cX5_placeOf 27 = .ok (.iinc 3 1, 3) := by decide +kernel
theorem dX5_placeOf_30 : decode cX5_placeOf 30 = .ok (.goto (-28), 3) := by decide +kernel
theorem dX5_placeOf_33 : decode cX5_placeOf 33 = .ok (.iload_n 3, 1) := by decide +kernel
theorem dX5_placeOf_34 : decode cX5_placeOf 34 = .ok (.aload_n 0, 1) := by decide +kernel
theorem dX5_placeOf_35 : decode cX5_placeOf 35 = .ok (.getfield 16, 3) := by decide +kernel
theorem dX5_placeOf_38 : decode cX5_placeOf 38 = .ok (.iload_n 1, 1) := by decide +kernel
theorem dX5_placeOf_39 : decode cX5_placeOf 39 = .ok (.iaload, 1) := by decide +kernel
theorem dX5_placeOf_40 : decode cX5_placeOf 40 = .ok (.if_icmp .ge 22, 3) := by decide +kernel
theorem dX5_placeOf_43 : decode cX5_placeOf 43 = .ok (.aload_n 0, 1) := by decide +kernel
theorem dX5_placeOf_44 : decode cX5_placeOf 44 = .ok (.getfield 7, 3) := by decide +kernel
theorem dX5_placeOf_47 : decode cX5_placeOf 47 = .ok (.bipush 60, 2) := by decide +kernel
theorem dX5_placeOf_49 : decode cX5_placeOf 49 = .ok (.iload_n 1, 1) := by decide +kernel
theorem dX5_placeOf_50 : decode cX5_placeOf 50 = .ok (.imul, 1) := by decide +kernel
theorem dX5_placeOf_51 : decode cX5_placeOf 51 = .ok (.iload_n 3, 1) := by decide +kernel
theorem dX5_placeOf_52 : decode cX5_placeOf 52 = .ok (.iadd, 1) := by decide +kernel
theorem dX5_placeOf_53 : decode cX5_placeOf 53 = .ok (.iaload, 1) := by decide +kernel
theorem dX5_placeOf_54 : decode cX5_placeOf 54 = .ok (.iload_n 2, 1) := by decide +kernel
theorem dX5_placeOf_55 : decode cX5_placeOf 55 = .ok (.if_icmp .ne 7, 3) := by decide +kernel
theorem dX5_placeOf_58 : decode cX5_placeOf 58 = .ok (.iload_n 3, 1) := by decide +kernel
theorem dX5_placeOf_59 : decode cX5_placeOf 59 = .ok (.goto 6, 3) := by decide +kernel
theorem dX5_placeOf_62 : decode cX5_placeOf 62 = .ok (.iconst (-1), 1) := by decide +kernel
theorem dX5_placeOf_63 : decode cX5_placeOf 63 = .ok (.iload_n 3, 1) := by decide +kernel
theorem dX5_placeOf_64 : decode cX5_placeOf 64 = .ok (.isub, 1) := by decide +kernel
theorem dX5_placeOf_65 : decode cX5_placeOf 65 = .ok (.ireturn, 1) := by decide +kernel
theorem dX5_has_0 : decode cX5_has 0 = .ok (.aload_n 0, 1) := by decide +kernel
theorem dX5_has_1 : decode cX5_has 1 = .ok (.iload_n 1, 1) := by decide +kernel
theorem dX5_has_2 : decode cX5_has 2 = .ok (.iload_n 2, 1) := by decide +kernel
theorem dX5_has_3 : decode cX5_has 3 = .ok (.invokevirtual 68, 3) := by decide +kernel
theorem dX5_has_6 : decode cX5_has 6 = .ok (.ifCond .lt 7, 3) := by decide +kernel
theorem dX5_has_9 : decode cX5_has 9 = .ok (.iconst 1, 1) := by decide +kernel
theorem dX5_has_10 : decode cX5_has 10 = .ok (.goto 4, 3) := by decide +kernel
theorem dX5_has_13 : decode cX5_has 13 = .ok (.iconst 0, 1) := by decide +kernel
theorem dX5_has_14 : decode cX5_has 14 = .ok (.ireturn, 1) := by decide +kernel
theorem dX5_puts_0 : decode cX5_puts 0 = .ok (.aload_n 0, 1) := by decide +kernel
theorem dX5_puts_1 : decode cX5_puts 1 = .ok (.iload_n 1, 1) := by decide +kernel
theorem dX5_puts_2 : decode cX5_puts 2 = .ok (.iload_n 2, 1) := by decide +kernel
theorem dX5_puts_3 : decode cX5_puts 3 = .ok (.invokevirtual 68, 3) := by decide +kernel
theorem dX5_puts_6 : decode cX5_puts 6 = .ok (.istore 4, 2) := by decide +kernel
theorem dX5_puts_8 : decode cX5_puts 8 = .ok (.iload 4, 2) := by decide +kernel
theorem dX5_puts_10 : decode cX5_puts 10 = .ok (.ifCond .ge 105, 3) := by decide +kernel
theorem dX5_puts_13 : decode cX5_puts 13 = .ok (.iconst (-1), 1) := by decide +kernel
theorem dX5_puts_14 : decode cX5_puts 14 = .ok (.iload 4, 2) := by decide +kernel
theorem dX5_puts_16 : decode cX5_puts 16 = .ok (.isub, 1) := by decide +kernel
theorem dX5_puts_17 : decode cX5_puts 17 = .ok (.istore 4, 2) := by decide +kernel
theorem dX5_puts_19 : decode cX5_puts 19 = .ok (.aload_n 0, 1) := by decide +kernel
theorem dX5_puts_20 : decode cX5_puts 20 = .ok (.getfield 16, 3) := by decide +kernel
theorem dX5_puts_23 : decode cX5_puts 23 = .ok (.iload_n 1, 1) := by decide +kernel
theorem dX5_puts_24 : decode cX5_puts 24 = .ok (.iaload, 1) := by decide +kernel
theorem dX5_puts_25 : decode cX5_puts 25 = .ok (.istore 5, 2) := by decide +kernel
theorem dX5_puts_27 : decode cX5_puts 27 = .ok (.iload 5, 2) := by decide +kernel
theorem dX5_puts_29 : decode cX5_puts 29 = .ok (.iload 4, 2) := by decide +kernel
theorem dX5_puts_31 : decode cX5_puts 31 = .ok (.if_icmp .le 61, 3) := by decide +kernel
theorem dX5_puts_34 : decode cX5_puts 34 = .ok (.aload_n 0, 1) := by decide +kernel
theorem dX5_puts_35 : decode cX5_puts 35 = .ok (.getfield 7, 3) := by decide +kernel
theorem dX5_puts_38 : decode cX5_puts 38 = .ok (.bipush 60, 2) := by decide +kernel
theorem dX5_puts_40 : decode cX5_puts 40 = .ok (.iload_n 1, 1) := by decide +kernel
theorem dX5_puts_41 : decode cX5_puts 41 = .ok (.imul, 1) := by decide +kernel
theorem dX5_puts_42 : decode cX5_puts 42 = .ok (.iload 5, 2) := by decide +kernel
theorem dX5_puts_44 : decode cX5_puts 44 = .ok (.iadd, 1) := by decide +kernel
theorem dX5_puts_45 : decode cX5_puts 45 = .ok (.aload_n 0, 1) := by decide +kernel
theorem dX5_puts_46 : decode cX5_puts 46 = .ok (.getfield 7, 3) := by decide +kernel
theorem dX5_puts_49 : decode cX5_puts 49 = .ok (.bipush 60, 2) := by decide +kernel
theorem dX5_puts_51 : decode cX5_puts 51 = .ok (.iload_n 1, 1) := by decide +kernel
theorem dX5_puts_52 : decode cX5_puts 52 = .ok (.imul, 1) := by decide +kernel
theorem dX5_puts_53 : decode cX5_puts 53 = .ok (.iload 5, 2) := by decide +kernel
theorem dX5_puts_55 : decode cX5_puts 55 = .ok (.iadd, 1) := by decide +kernel
theorem dX5_puts_56 : decode cX5_puts 56 = .ok (.iconst 1, 1) := by decide +kernel
theorem dX5_puts_57 : decode cX5_puts 57 = .ok (.isub, 1) := by decide +kernel
theorem dX5_puts_58 : decode cX5_puts 58 = .ok (.iaload, 1) := by decide +kernel
theorem dX5_puts_59 : decode cX5_puts 59 = .ok (.iastore, 1) := by decide +kernel
theorem dX5_puts_60 : decode cX5_puts 60 = .ok (.aload_n 0, 1) := by decide +kernel
theorem dX5_puts_61 : decode cX5_puts 61 = .ok (.getfield 13, 3) := by decide +kernel
theorem dX5_puts_64 : decode cX5_puts 64 = .ok (.bipush 60, 2) := by decide +kernel
theorem dX5_puts_66 : decode cX5_puts 66 = .ok (.iload_n 1, 1) := by decide +kernel
theorem dX5_puts_67 : decode cX5_puts 67 = .ok (.imul, 1) := by decide +kernel
theorem dX5_puts_68 : decode cX5_puts 68 = .ok (.iload 5, 2) := by decide +kernel
theorem dX5_puts_70 : decode cX5_puts 70 = .ok (.iadd, 1) := by decide +kernel
theorem dX5_puts_71 : decode cX5_puts 71 = .ok (.aload_n 0, 1) := by decide +kernel
theorem dX5_puts_72 : decode cX5_puts 72 = .ok (.getfield 13, 3) := by decide +kernel
theorem dX5_puts_75 : decode cX5_puts 75 = .ok (.bipush 60, 2) := by decide +kernel
theorem dX5_puts_77 : decode cX5_puts 77 = .ok (.iload_n 1, 1) := by decide +kernel
theorem dX5_puts_78 : decode cX5_puts 78 = .ok (.imul, 1) := by decide +kernel
theorem dX5_puts_79 : decode cX5_puts 79 = .ok (.iload 5, 2) := by decide +kernel
theorem dX5_puts_81 : decode cX5_puts 81 = .ok (.iadd, 1) := by decide +kernel
theorem dX5_puts_82 : decode cX5_puts 82 = .ok (.iconst 1, 1) := by decide +kernel
theorem dX5_puts_83 : decode cX5_puts 83 = .ok (.isub, 1) := by decide +kernel
theorem dX5_puts_84 : decode cX5_puts 84 = .ok (.iaload, 1) := by decide +kernel
theorem dX5_puts_85 : decode cX5_puts 85 = .ok (.iastore, 1) := by decide +kernel
theorem dX5_puts_86 : decode cX5_puts 86 = .ok (.iinc 5 (-1), 3) := by decide +kernel
theorem dX5_puts_89 : decode cX5_puts 89 = .ok (.goto (-62), 3) := by decide +kernel
theorem dX5_puts_92 : decode cX5_puts 92 = .ok (.aload_n 0, 1) := by decide +kernel
theorem dX5_puts_93 : decode cX5_puts 93 = .ok (.getfield 16, 3) := by decide +kernel
theorem dX5_puts_96 : decode cX5_puts 96 = .ok (.iload_n 1, 1) := by decide +kernel
theorem dX5_puts_97 : decode cX5_puts 97 = .ok (.dup2, 1) := by decide +kernel
theorem dX5_puts_98 : decode cX5_puts 98 = .ok (.iaload, 1) := by decide +kernel
theorem dX5_puts_99 : decode cX5_puts 99 = .ok (.iconst 1, 1) := by decide +kernel
theorem dX5_puts_100 : decode cX5_puts 100 = .ok (.iadd, 1) := by decide +kernel
theorem dX5_puts_101 : decode cX5_puts 101 = .ok (.iastore, 1) := by decide +kernel
theorem dX5_puts_102 : decode cX5_puts 102 = .ok (.aload_n 0, 1) := by decide +kernel
theorem dX5_puts_103 : decode cX5_puts 103 = .ok (.getfield 7, 3) := by decide +kernel
theorem dX5_puts_106 : decode cX5_puts 106 = .ok (.bipush 60, 2) := by decide +kernel
theorem dX5_puts_108 : decode cX5_puts 108 = .ok (.iload_n 1, 1) := by decide +kernel
theorem dX5_puts_109 : decode cX5_puts 109 = .ok (.imul, 1) := by decide +kernel
theorem dX5_puts_110 : decode cX5_puts 110 = .ok (.iload 4, 2) := by decide +kernel
theorem dX5_puts_112 : decode cX5_puts 112 = .ok (.iadd, 1) := by decide +kernel
theorem dX5_puts_113 : decode cX5_puts 113 = .ok (.iload_n 2, 1) := by decide +kernel
theorem dX5_puts_114 : decode cX5_puts 114 = .ok (.iastore, 1) := by decide +kernel
theorem dX5_puts_115 : decode cX5_puts 115 = .ok (.aload_n 0, 1) := by decide +kernel
theorem dX5_puts_116 : decode cX5_puts 116 = .ok (.getfield 13, 3) := by decide +kernel
theorem dX5_puts_119 : decode cX5_puts 119 = .ok (.bipush 60, 2) := by decide +kernel
theorem dX5_puts_121 : decode cX5_puts 121 = .ok (.iload_n 1, 1) := by decide +kernel
theorem dX5_puts_122 : decode cX5_puts 122 = .ok (.imul, 1) := by decide +kernel
theorem dX5_puts_123 : decode cX5_puts 123 = .ok (.iload 4, 2) := by decide +kernel
theorem dX5_puts_125 : decode cX5_puts 125 = .ok (.iadd, 1) := by decide +kernel
theorem dX5_puts_126 : decode cX5_puts 126 = .ok (.iload_n 3, 1) := by decide +kernel
theorem dX5_puts_127 : decode cX5_puts 127 = .ok (.iastore, 1) := by decide +kernel
theorem dX5_puts_128 : decode cX5_puts 128 = .ok (.return_, 1) := by decide +kernel
theorem dX5_takes_0 : decode cX5_takes 0 = .ok (.aload_n 0, 1) := by decide +kernel
theorem dX5_takes_1 : decode cX5_takes 1 = .ok (.getfield 16, 3) := by decide +kernel
theorem dX5_takes_4 : decode cX5_takes 4 = .ok (.iload_n 1, 1) := by decide +kernel
theorem dX5_takes_5 : decode cX5_takes 5 = .ok (.dup2, 1) := by decide +kernel
theorem dX5_takes_6 : decode cX5_takes 6 = .ok (.iaload, 1) := by decide +kernel
theorem dX5_takes_7 : decode cX5_takes 7 = .ok (.iconst 1, 1) := by decide +kernel
theorem dX5_takes_8 : decode cX5_takes 8 = .ok (.isub, 1) := by decide +kernel
theorem dX5_takes_9 : decode cX5_takes 9 = .ok (.iastore, 1) := by decide +kernel
theorem dX5_takes_10 : decode cX5_takes 10 = .ok (.iload_n 2, 1) := by decide +kernel
theorem dX5_takes_11 : decode cX5_takes 11 = .ok (.istore_n 3, 1) := by decide +kernel
theorem dX5_takes_12 : decode cX5_takes 12 = .ok (.iload_n 3, 1) := by decide +kernel
theorem dX5_takes_13 : decode cX5_takes 13 = .ok (.aload_n 0, 1) := by decide +kernel
theorem dX5_takes_14 : decode cX5_takes 14 = .ok (.getfield 16, 3) := by decide +kernel
theorem dX5_takes_17 : decode cX5_takes 17 = .ok (.iload_n 1, 1) := by decide +kernel
theorem dX5_takes_18 : decode cX5_takes 18 = .ok (.iaload, 1) := by decide +kernel
theorem dX5_takes_19 : decode cX5_takes 19 = .ok (.if_icmp .ge 57, 3) := by decide +kernel
theorem dX5_takes_22 : decode cX5_takes 22 = .ok (.aload_n 0, 1) := by decide +kernel
theorem dX5_takes_23 : decode cX5_takes 23 = .ok (.getfield 7, 3) := by decide +kernel
theorem dX5_takes_26 : decode cX5_takes 26 = .ok (.bipush 60, 2) := by decide +kernel
theorem dX5_takes_28 : decode cX5_takes 28 = .ok (.iload_n 1, 1) := by decide +kernel
theorem dX5_takes_29 : decode cX5_takes 29 = .ok (.imul, 1) := by decide +kernel
theorem dX5_takes_30 : decode cX5_takes 30 = .ok (.iload_n 3, 1) := by decide +kernel
theorem dX5_takes_31 : decode cX5_takes 31 = .ok (.iadd, 1) := by decide +kernel
theorem dX5_takes_32 : decode cX5_takes 32 = .ok (.aload_n 0, 1) := by decide +kernel
theorem dX5_takes_33 : decode cX5_takes 33 = .ok (.getfield 7, 3) := by decide +kernel
theorem dX5_takes_36 : decode cX5_takes 36 = .ok (.bipush 60, 2) := by decide +kernel
theorem dX5_takes_38 : decode cX5_takes 38 = .ok (.iload_n 1, 1) := by decide +kernel
theorem dX5_takes_39 : decode cX5_takes 39 = .ok (.imul, 1) := by decide +kernel
theorem dX5_takes_40 : decode cX5_takes 40 = .ok (.iload_n 3, 1) := by decide +kernel
theorem dX5_takes_41 : decode cX5_takes 41 = .ok (.iadd, 1) := by decide +kernel
theorem dX5_takes_42 : decode cX5_takes 42 = .ok (.iconst 1, 1) := by decide +kernel
theorem dX5_takes_43 : decode cX5_takes 43 = .ok (.iadd, 1) := by decide +kernel
theorem dX5_takes_44 : decode cX5_takes 44 = .ok (.iaload, 1) := by decide +kernel
theorem dX5_takes_45 : decode cX5_takes 45 = .ok (.iastore, 1) := by decide +kernel
theorem dX5_takes_46 : decode cX5_takes 46 = .ok (.aload_n 0, 1) := by decide +kernel
theorem dX5_takes_47 : decode cX5_takes 47 = .ok (.getfield 13, 3) := by decide +kernel
theorem dX5_takes_50 : decode cX5_takes 50 = .ok (.bipush 60, 2) := by decide +kernel
theorem dX5_takes_52 : decode cX5_takes 52 = .ok (.iload_n 1, 1) := by decide +kernel
theorem dX5_takes_53 : decode cX5_takes 53 = .ok (.imul, 1) := by decide +kernel
theorem dX5_takes_54 : decode cX5_takes 54 = .ok (.iload_n 3, 1) := by decide +kernel
theorem dX5_takes_55 : decode cX5_takes 55 = .ok (.iadd, 1) := by decide +kernel
theorem dX5_takes_56 : decode cX5_takes 56 = .ok (.aload_n 0, 1) := by decide +kernel
theorem dX5_takes_57 : decode cX5_takes 57 = .ok (.getfield 13, 3) := by decide +kernel
theorem dX5_takes_60 : decode cX5_takes 60 = .ok (.bipush 60, 2) := by decide +kernel
theorem dX5_takes_62 : decode cX5_takes 62 = .ok (.iload_n 1, 1) := by decide +kernel
theorem dX5_takes_63 : decode cX5_takes 63 = .ok (.imul, 1) := by decide +kernel
theorem dX5_takes_64 : decode cX5_takes 64 = .ok (.iload_n 3, 1) := by decide +kernel
theorem dX5_takes_65 : decode cX5_takes 65 = .ok (.iadd, 1) := by decide +kernel
theorem dX5_takes_66 : decode cX5_takes 66 = .ok (.iconst 1, 1) := by decide +kernel
theorem dX5_takes_67 : decode cX5_takes 67 = .ok (.iadd, 1) := by decide +kernel
theorem dX5_takes_68 : decode cX5_takes 68 = .ok (.iaload, 1) := by decide +kernel
theorem dX5_takes_69 : decode cX5_takes 69 = .ok (.iastore, 1) := by decide +kernel
theorem dX5_takes_70 : decode cX5_takes 70 = .ok (.iinc 3 1, 3) := by decide +kernel
theorem dX5_takes_73 : decode cX5_takes 73 = .ok (.goto (-61), 3) := by decide +kernel
theorem dX5_takes_76 : decode cX5_takes 76 = .ok (.return_, 1) := by decide +kernel
theorem dX5_pollsAt_0 : decode cX5_pollsAt 0 = .ok (.aload_n 0, 1) := by decide +kernel
theorem dX5_pollsAt_1 : decode cX5_pollsAt 1 = .ok (.getfield 7, 3) := by decide +kernel
theorem dX5_pollsAt_4 : decode cX5_pollsAt 4 = .ok (.bipush 60, 2) := by decide +kernel
theorem dX5_pollsAt_6 : decode cX5_pollsAt 6 = .ok (.iload_n 1, 1) := by decide +kernel
theorem dX5_pollsAt_7 : decode cX5_pollsAt 7 = .ok (.imul, 1) := by decide +kernel
theorem dX5_pollsAt_8 : decode cX5_pollsAt 8 = .ok (.iload_n 2, 1) := by decide +kernel
theorem dX5_pollsAt_9 : decode cX5_pollsAt 9 = .ok (.iadd, 1) := by decide +kernel
theorem dX5_pollsAt_10 : decode cX5_pollsAt 10 = .ok (.iaload, 1) := by decide +kernel
theorem dX5_pollsAt_11 : decode cX5_pollsAt 11 = .ok (.istore_n 3, 1) := by decide +kernel
theorem dX5_pollsAt_12 : decode cX5_pollsAt 12 = .ok (.aload_n 0, 1) := by decide +kernel
theorem dX5_pollsAt_13 : decode cX5_pollsAt 13 = .ok (.iconst 1, 1) := by decide +kernel
theorem dX5_pollsAt_14 : decode cX5_pollsAt 14 = .ok (.putfield 72, 3) := by decide +kernel
theorem dX5_pollsAt_17 : decode cX5_pollsAt 17 = .ok (.aload_n 0, 1) := by decide +kernel
theorem dX5_pollsAt_18 : decode cX5_pollsAt 18 = .ok (.aload_n 0, 1) := by decide +kernel
theorem dX5_pollsAt_19 : decode cX5_pollsAt 19 = .ok (.getfield 13, 3) := by decide +kernel
theorem dX5_pollsAt_22 : decode cX5_pollsAt 22 = .ok (.bipush 60, 2) := by decide +kernel
theorem dX5_pollsAt_24 : decode cX5_pollsAt 24 = .ok (.iload_n 1, 1) := by decide +kernel
theorem dX5_pollsAt_25 : decode cX5_pollsAt 25 = .ok (.imul, 1) := by decide +kernel
theorem dX5_pollsAt_26 : decode cX5_pollsAt 26 = .ok (.iload_n 2, 1) := by decide +kernel
theorem dX5_pollsAt_27 : decode cX5_pollsAt 27 = .ok (.iadd, 1) := by decide +kernel
theorem dX5_pollsAt_28 : decode cX5_pollsAt 28 = .ok (.iaload, 1) := by decide +kernel
theorem dX5_pollsAt_29 : decode cX5_pollsAt 29 = .ok (.putfield 76, 3) := by decide +kernel
theorem dX5_pollsAt_32 : decode cX5_pollsAt 32 = .ok (.aload_n 0, 1) := by decide +kernel
theorem dX5_pollsAt_33 : decode cX5_pollsAt 33 = .ok (.iload_n 1, 1) := by decide +kernel
theorem dX5_pollsAt_34 : decode cX5_pollsAt 34 = .ok (.iload_n 2, 1) := by decide +kernel
theorem dX5_pollsAt_35 : decode cX5_pollsAt 35 = .ok (.invokevirtual 79, 3) := by decide +kernel
theorem dX5_pollsAt_38 : decode cX5_pollsAt 38 = .ok (.iload_n 3, 1) := by decide +kernel
theorem dX5_pollsAt_39 : decode cX5_pollsAt 39 = .ok (.ireturn, 1) := by decide +kernel
theorem dX5_isOnSide_0 : decode cX5_isOnSide 0 = .ok (.iload_n 2, 1) := by decide +kernel
theorem dX5_isOnSide_1 : decode cX5_isOnSide 1 = .ok (.bipush 102, 2) := by decide +kernel
theorem dX5_isOnSide_3 : decode cX5_isOnSide 3 = .ok (.if_icmp .ne 16, 3) := by decide +kernel
theorem dX5_isOnSide_6 : decode cX5_isOnSide 6 = .ok (.iload_n 0, 1) := by decide +kernel
theorem dX5_isOnSide_7 : decode cX5_isOnSide 7 = .ok (.iload_n 1, 1) := by decide +kernel
theorem dX5_isOnSide_8 : decode cX5_isOnSide 8 = .ok (.if_icmp .gt 7, 3) := by decide +kernel
theorem dX5_isOnSide_11 : decode cX5_isOnSide 11 = .ok (.iconst 1, 1) := by decide +kernel
theorem dX5_isOnSide_12 : decode cX5_isOnSide 12 = .ok (.goto 55, 3) := by decide +kernel
theorem dX5_isOnSide_15 : decode cX5_isOnSide 15 = .ok (.iconst 0, 1) := by decide +kernel
theorem dX5_isOnSide_16 : decode cX5_isOnSide 16 = .ok (.goto 51, 3) := by decide +kernel
theorem dX5_isOnSide_19 : decode cX5_isOnSide 19 = .ok (.iload_n 2, 1) := by decide +kernel
theorem dX5_isOnSide_20 : decode cX5_isOnSide 20 = .ok (.bipush 99, 2) := by decide +kernel
theorem dX5_isOnSide_22 : decode cX5_isOnSide 22 = .ok (.if_icmp .ne 16, 3) := by decide +kernel
theorem dX5_isOnSide_25 : decode cX5_isOnSide 25 = .ok (.iload_n 0, 1) := by decide +kernel
theorem dX5_isOnSide_26 : decode cX5_isOnSide 26 = .ok (.iload_n 1, 1) := by decide +kernel
theorem dX5_isOnSide_27 : decode cX5_isOnSide 27 = .ok (.if_icmp .lt 7, 3) := by decide +kernel
theorem dX5_isOnSide_30 : decode cX5_isOnSide 30 = .ok (.iconst 1, 1) := by decide +kernel
theorem dX5_isOnSide_31 : decode cX5_isOnSide 31 = .ok (.goto 36, 3) := by decide +kernel
theorem dX5_isOnSide_34 : decode cX5_isOnSide 34 = .ok (.iconst 0, 1) := by decide +kernel
theorem dX5_isOnSide_35 : decode cX5_isOnSide 35 = .ok (.goto 32, 3) := by decide +kernel
theorem dX5_isOnSide_38 : decode cX5_isOnSide 38 = .ok (.iload_n 2, 1) := by decide +kernel
theorem dX5_isOnSide_39 : decode cX5_isOnSide 39 = .ok (.bipush 104, 2) := by decide +kernel
theorem dX5_isOnSide_41 : decode cX5_isOnSide 41 = .ok (.if_icmp .ne 16, 3) := by decide +kernel
theorem dX5_isOnSide_44 : decode cX5_isOnSide 44 = .ok (.iload_n 0, 1) := by decide +kernel
theorem dX5_isOnSide_45 : decode cX5_isOnSide 45 = .ok (.iload_n 1, 1) := by decide +kernel
theorem dX5_isOnSide_46 : decode cX5_isOnSide 46 = .ok (.if_icmp .le 7, 3) := by decide +kernel
theorem dX5_isOnSide_49 : decode cX5_isOnSide 49 = .ok (.iconst 1, 1) := by decide +kernel
theorem dX5_isOnSide_50 : decode cX5_isOnSide 50 = .ok (.goto 17, 3) := by decide +kernel
theorem dX5_isOnSide_53 : decode cX5_isOnSide 53 = .ok (.iconst 0, 1) := by decide +kernel
theorem dX5_isOnSide_54 : decode cX5_isOnSide 54 = .ok (.goto 13, 3) := by decide +kernel
theorem dX5_isOnSide_57 : decode cX5_isOnSide 57 = .ok (.iload_n 0, 1) := by decide +kernel
theorem dX5_isOnSide_58 : decode cX5_isOnSide 58 = .ok (.iload_n 1, 1) := by decide +kernel
theorem dX5_isOnSide_59 : decode cX5_isOnSide 59 = .ok (.if_icmp .ge 7, 3) := by decide +kernel
theorem dX5_isOnSide_62 : decode cX5_isOnSide 62 = .ok (.iconst 1, 1) := by decide +kernel
theorem dX5_isOnSide_63 : decode cX5_isOnSide 63 = .ok (.goto 4, 3) := by decide +kernel
theorem dX5_isOnSide_66 : decode cX5_isOnSide 66 = .ok (.iconst 0, 1) := by decide +kernel
theorem dX5_isOnSide_67 : decode cX5_isOnSide 67 = .ok (.ireturn, 1) := by decide +kernel
theorem dX5_nearAt_0 : decode cX5_nearAt 0 = .ok (.iconst (-1), 1) := by decide +kernel
theorem dX5_nearAt_1 : decode cX5_nearAt 1 = .ok (.istore 6, 2) := by decide +kernel
theorem dX5_nearAt_3 : decode cX5_nearAt 3 = .ok (.iload_n 2, 1) := by decide +kernel
theorem dX5_nearAt_4 : decode cX5_nearAt 4 = .ok (.istore 7, 2) := by decide +kernel
theorem dX5_nearAt_6 : decode cX5_nearAt 6 = .ok (.iload 7, 2) := by decide +kernel
theorem dX5_nearAt_8 : decode cX5_nearAt 8 = .ok (.iload_n 3, 1) := by decide +kernel
theorem dX5_nearAt_9 : decode cX5_nearAt 9 = .ok (.if_icmp .ge 63, 3) := by decide +kernel
theorem dX5_nearAt_12 : decode cX5_nearAt 12 = .ok (.aload_n 0, 1) := by decide +kernel
theorem dX5_nearAt_13 : decode cX5_nearAt 13 = .ok (.getfield 7, 3) := by decide +kernel
theorem dX5_nearAt_16 : decode cX5_nearAt 16 = .ok (.bipush 60, 2) := by decide +kernel
theorem dX5_nearAt_18 : decode cX5_nearAt 18 = .ok (.iload_n 1, 1) := by decide +kernel
theorem dX5_nearAt_19 : decode cX5_nearAt 19 = .ok (.imul, 1) := by decide +kernel
theorem dX5_nearAt_20 : decode cX5_nearAt 20 = .ok (.iload 7, 2) := by decide +kernel
theorem dX5_nearAt_22 : decode cX5_nearAt 22 = .ok (.iadd, 1) := by decide +kernel
theorem dX5_nearAt_23 : decode cX5_nearAt 23 = .ok (.iaload, 1) := by decide +kernel
theorem dX5_nearAt_24 : decode cX5_nearAt 24 = .ok (.iload 4, 2) := by decide +kernel
theorem dX5_nearAt_26 : decode cX5_nearAt 26 = .ok (.iload 5, 2) := by decide +kernel
theorem dX5_nearAt_28 : decode cX5_nearAt 28 = .ok (.invokestatic 83, 3) := by decide +kernel
theorem dX5_nearAt_31 : decode cX5_nearAt 31 = .ok (.istore 8, 2) := by decide +kernel
theorem dX5_nearAt_33 : decode cX5_nearAt 33 = .ok (.iload 8, 2) := by decide +kernel
theorem dX5_nearAt_35 : decode cX5_nearAt 35 = .ok (.ifCond .eq 27, 3) := by decide +kernel
theorem dX5_nearAt_38 : decode cX5_nearAt 38 = .ok (.iload 6, 2) := by decide +kernel
theorem dX5_nearAt_40 : decode cX5_nearAt 40 = .ok (.ifCond .lt 17, 3) := by decide +kernel
theorem dX5_nearAt_43 : decode cX5_nearAt 43 = .ok (.iload 5, 2) := by decide +kernel
theorem dX5_nearAt_45 : decode cX5_nearAt 45 = .ok (.bipush 102, 2) := by decide +kernel
theorem dX5_nearAt_47 : decode cX5_nearAt 47 = .ok (.if_icmp .eq 10, 3) := by decide +kernel
theorem dX5_nearAt_50 : decode cX5_nearAt 50 = .ok (.iload 5, 2) := by decide +kernel
theorem dX5_nearAt_52 : decode cX5_nearAt 52 = .ok (.bipush 108, 2) := by decide +kernel
theorem dX5_nearAt_54 : decode cX5_nearAt 54 = .ok (.if_icmp .ne 8, 3) := by decide +kernel
theorem dX5_nearAt_57 : decode cX5_nearAt 57 = .ok (.iload 7, 2) := by decide +kernel
theorem dX5_nearAt_59 : decode cX5_nearAt 59 = .ok (.goto 5, 3) := by decide +kernel
theorem dX5_nearAt_62 : decode cX5_nearAt 62 = .ok (.iload 6, 2) := by decide +kernel
theorem dX5_nearAt_64 : decode cX5_nearAt 64 = .ok (.istore 6, 2) := by decide +kernel
theorem dX5_nearAt_66 : decode cX5_nearAt 66 = .ok (.iinc 7 1, 3) := by decide +kernel
theorem dX5_nearAt_69 : decode cX5_nearAt 69 = .ok (.goto (-63), 3) := by decide +kernel
theorem dX5_nearAt_72 : decode cX5_nearAt 72 = .ok (.iload 6, 2) := by decide +kernel
theorem dX5_nearAt_74 : decode cX5_nearAt 74 = .ok (.ireturn, 1) := by decide +kernel
theorem dX5_put_0 : decode cX5_put 0 = .ok (.aload_n 0, 1) := by decide +kernel
theorem dX5_put_1 : decode cX5_put 1 = .ok (.iload_n 1, 1) := by decide +kernel
theorem dX5_put_2 : decode cX5_put 2 = .ok (.invokestatic 87, 3) := by decide +kernel
theorem dX5_put_5 : decode cX5_put 5 = .ok (.ifCond .ne 7, 3) := by decide +kernel
theorem dX5_put_8 : decode cX5_put 8 = .ok (.iconst 1, 1) := by decide +kernel
theorem dX5_put_9 : decode cX5_put 9 = .ok (.goto 28, 3) := by decide +kernel
theorem dX5_put_12 : decode cX5_put 12 = .ok (.aload_n 0, 1) := by decide +kernel
theorem dX5_put_13 : decode cX5_put 13 = .ok (.getfield 16, 3) := by decide +kernel
theorem dX5_put_16 : decode cX5_put 16 = .ok (.iload_n 1, 1) := by decide +kernel
theorem dX5_put_17 : decode cX5_put 17 = .ok (.iaload, 1) := by decide +kernel
theorem dX5_put_18 : decode cX5_put 18 = .ok (.bipush 60, 2) := by decide +kernel
theorem dX5_put_20 : decode cX5_put 20 = .ok (.if_icmp .ne 16, 3) := by decide +kernel
theorem dX5_put_23 : decode cX5_put 23 = .ok (.aload_n 0, 1) := by decide +kernel
theorem dX5_put_24 : decode cX5_put 24 = .ok (.iload_n 1, 1) := by decide +kernel
theorem dX5_put_25 : decode cX5_put 25 = .ok (.iload_n 2, 1) := by decide +kernel
theorem dX5_put_26 : decode cX5_put 26 = .ok (.invokevirtual 91, 3) := by decide +kernel
theorem dX5_put_29 : decode cX5_put 29 = .ok (.ifCond .ne 7, 3) := by decide +kernel
theorem dX5_put_32 : decode cX5_put 32 = .ok (.iconst 2, 1) := by decide +kernel
theorem dX5_put_33 : decode cX5_put 33 = .ok (.goto 4, 3) := by decide +kernel
theorem dX5_put_36 : decode cX5_put 36 = .ok (.iconst 0, 1) := by decide +kernel
theorem dX5_put_37 : decode cX5_put 37 = .ok (.invokevirtual 95, 3) := by decide +kernel
theorem dX5_put_40 : decode cX5_put 40 = .ok (.ifCond .eq 5, 3) := by decide +kernel
theorem dX5_put_43 : decode cX5_put 43 = .ok (.iconst 0, 1) := by decide +kernel
theorem dX5_put_44 : decode cX5_put 44 = .ok (.ireturn, 1) := by decide +kernel
theorem dX5_put_45 : decode cX5_put 45 = .ok (.aload_n 0, 1) := by decide +kernel
theorem dX5_put_46 : decode cX5_put 46 = .ok (.iload_n 1, 1) := by decide +kernel
theorem dX5_put_47 : decode cX5_put 47 = .ok (.iload_n 2, 1) := by decide +kernel
theorem dX5_put_48 : decode cX5_put 48 = .ok (.iload_n 3, 1) := by decide +kernel
theorem dX5_put_49 : decode cX5_put 49 = .ok (.invokevirtual 98, 3) := by decide +kernel
theorem dX5_put_52 : decode cX5_put 52 = .ok (.aload_n 0, 1) := by decide +kernel
theorem dX5_put_53 : decode cX5_put 53 = .ok (.getfield 16, 3) := by decide +kernel
theorem dX5_put_56 : decode cX5_put 56 = .ok (.iload_n 1, 1) := by decide +kernel
theorem dX5_put_57 : decode cX5_put 57 = .ok (.iaload, 1) := by decide +kernel
theorem dX5_put_58 : decode cX5_put 58 = .ok (.ireturn, 1) := by decide +kernel
theorem dX5_value_0 : decode cX5_value 0 = .ok (.aload_n 0, 1) := by decide +kernel
theorem dX5_value_1 : decode cX5_value 1 = .ok (.iload_n 1, 1) := by decide +kernel
theorem dX5_value_2 : decode cX5_value 2 = .ok (.invokestatic 87, 3) := by decide +kernel
theorem dX5_value_5 : decode cX5_value 5 = .ok (.ifCond .ne 7, 3) := by decide +kernel
theorem dX5_value_8 : decode cX5_value 8 = .ok (.iconst 1, 1) := by decide +kernel
theorem dX5_value_9 : decode cX5_value 9 = .ok (.goto 17, 3) := by decide +kernel
theorem dX5_value_12 : decode cX5_value 12 = .ok (.aload_n 0, 1) := by decide +kernel
theorem dX5_value_13 : decode cX5_value 13 = .ok (.iload_n 1, 1) := by decide +kernel
theorem dX5_value_14 : decode cX5_value 14 = .ok (.iload_n 2, 1) := by decide +kernel
theorem dX5_value_15 : decode cX5_value 15 = .ok (.invokevirtual 91, 3) := by decide +kernel
theorem dX5_value_18 : decode cX5_value 18 = .ok (.ifCond .ne 7, 3) := by decide +kernel
theorem dX5_value_21 : decode cX5_value 21 = .ok (.iconst 2, 1) := by decide +kernel
theorem dX5_value_22 : decode cX5_value 22 = .ok (.goto 4, 3) := by decide +kernel
theorem dX5_value_25 : decode cX5_value 25 = .ok (.iconst 0, 1) := by decide +kernel
theorem dX5_value_26 : decode cX5_value 26 = .ok (.invokevirtual 95, 3) := by decide +kernel
theorem dX5_value_29 : decode cX5_value 29 = .ok (.ifCond .eq 5, 3) := by decide +kernel
theorem dX5_value_32 : decode cX5_value 32 = .ok (.iconst 0, 1) := by decide +kernel
theorem dX5_value_33 : decode cX5_value 33 = .ok (.ireturn, 1) := by decide +kernel
theorem dX5_value_34 : decode cX5_value 34 = .ok (.aload_n 0, 1) := by decide +kernel
theorem dX5_value_35 : decode cX5_value 35 = .ok (.getfield 13, 3) := by decide +kernel
theorem dX5_value_38 : decode cX5_value 38 = .ok (.bipush 60, 2) := by decide +kernel
theorem dX5_value_40 : decode cX5_value 40 = .ok (.iload_n 1, 1) := by decide +kernel
theorem dX5_value_41 : decode cX5_value 41 = .ok (.imul, 1) := by decide +kernel
theorem dX5_value_42 : decode cX5_value 42 = .ok (.aload_n 0, 1) := by decide +kernel
theorem dX5_value_43 : decode cX5_value 43 = .ok (.iload_n 1, 1) := by decide +kernel
theorem dX5_value_44 : decode cX5_value 44 = .ok (.iload_n 2, 1) := by decide +kernel
theorem dX5_value_45 : decode cX5_value 45 = .ok (.invokevirtual 68, 3) := by decide +kernel
theorem dX5_value_48 : decode cX5_value 48 = .ok (.iadd, 1) := by decide +kernel
theorem dX5_value_49 : decode cX5_value 49 = .ok (.iaload, 1) := by decide +kernel
theorem dX5_value_50 : decode cX5_value 50 = .ok (.ireturn, 1) := by decide +kernel
theorem dX5_remove_0 : decode cX5_remove 0 = .ok (.aload_n 0, 1) := by decide +kernel
theorem dX5_remove_1 : decode cX5_remove 1 = .ok (.iload_n 1, 1) := by decide +kernel
theorem dX5_remove_2 : decode cX5_remove 2 = .ok (.invokestatic 87, 3) := by decide +kernel
theorem dX5_remove_5 : decode cX5_remove 5 = .ok (.ifCond .ne 7, 3) := by decide +kernel
theorem dX5_remove_8 : decode cX5_remove 8 = .ok (.iconst 1, 1) := by decide +kernel
theorem dX5_remove_9 : decode cX5_remove 9 = .ok (.goto 4, 3) := by decide +kernel
theorem dX5_remove_12 : decode cX5_remove 12 = .ok (.iconst 0, 1) := by decide +kernel
theorem dX5_remove_13 : decode cX5_remove 13 = .ok (.invokevirtual 95, 3) := by decide +kernel
theorem dX5_remove_16 : decode cX5_remove 16 = .ok (.ifCond .eq 5, 3) := by decide +kernel
theorem dX5_remove_19 : decode cX5_remove 19 = .ok (.iconst 0, 1) := by decide +kernel
theorem dX5_remove_20 : decode cX5_remove 20 = .ok (.ireturn, 1) := by decide +kernel
theorem dX5_remove_21 : decode cX5_remove 21 = .ok (.aload_n 0, 1) := by decide +kernel
theorem dX5_remove_22 : decode cX5_remove 22 = .ok (.iload_n 1, 1) := by decide +kernel
theorem dX5_remove_23 : decode cX5_remove 23 = .ok (.iload_n 2, 1) := by decide +kernel
theorem dX5_remove_24 : decode cX5_remove 24 = .ok (.invokevirtual 91, 3) := by decide +kernel
theorem dX5_remove_27 : decode cX5_remove 27 = .ok (.ifCond .eq 14, 3) := by decide +kernel
theorem dX5_remove_30 : decode cX5_remove 30 = .ok (.aload_n 0, 1) := by decide +kernel
theorem dX5_remove_31 : decode cX5_remove 31 = .ok (.iload_n 1, 1) := by decide +kernel
theorem dX5_remove_32 : decode cX5_remove 32 = .ok (.aload_n 0, 1) := by decide +kernel
theorem dX5_remove_33 : decode cX5_remove 33 = .ok (.iload_n 1, 1) := by decide +kernel
theorem dX5_remove_34 : decode cX5_remove 34 = .ok (.iload_n 2, 1) := by decide +kernel
theorem dX5_remove_35 : decode cX5_remove 35 = .ok (.invokevirtual 68, 3) := by decide +kernel
theorem dX5_remove_38 : decode cX5_remove 38 = .ok (.invokevirtual 79, 3) := by decide +kernel
theorem dX5_remove_41 : decode cX5_remove 41 = .ok (.aload_n 0, 1) := by decide +kernel
theorem dX5_remove_42 : decode cX5_remove 42 = .ok (.getfield 16, 3) := by decide +kernel
theorem dX5_remove_45 : decode cX5_remove 45 = .ok (.iload_n 1, 1) := by decide +kernel
theorem dX5_remove_46 : decode cX5_remove 46 = .ok (.iaload, 1) := by decide +kernel
theorem dX5_remove_47 : decode cX5_remove 47 = .ok (.ireturn, 1) := by decide +kernel
theorem dX5_near_0 : decode cX5_near 0 = .ok (.aload_n 0, 1) := by decide +kernel
theorem dX5_near_1 : decode cX5_near 1 = .ok (.iload_n 1, 1) := by decide +kernel
theorem dX5_near_2 : decode cX5_near 2 = .ok (.invokestatic 87, 3) := by decide +kernel
theorem dX5_near_5 : decode cX5_near 5 = .ok (.ifCond .ne 7, 3) := by decide +kernel
theorem dX5_near_8 : decode cX5_near 8 = .ok (.iconst 1, 1) := by decide +kernel
theorem dX5_near_9 : decode cX5_near 9 = .ok (.goto 36, 3) := by decide +kernel
theorem dX5_near_12 : decode cX5_near 12 = .ok (.iload_n 3, 1) := by decide +kernel
theorem dX5_near_13 : decode cX5_near 13 = .ok (.invokestatic 102, 3) := by decide +kernel
theorem dX5_near_16 : decode cX5_near 16 = .ok (.ifCond .ne 7, 3) := by decide +kernel
theorem dX5_near_19 : decode cX5_near 19 = .ok (.iconst 2, 1) := by decide +kernel
theorem dX5_near_20 : decode cX5_near 20 = .ok (.goto 25, 3) := by decide +kernel
theorem dX5_near_23 : decode cX5_near 23 = .ok (.aload_n 0, 1) := by decide +kernel
theorem dX5_near_24 : decode cX5_near 24 = .ok (.iload_n 1, 1) := by decide +kernel
theorem dX5_near_25 : decode cX5_near 25 = .ok (.iconst 0, 1) := by decide +kernel
theorem dX5_near_26 : decode cX5_near 26 = .ok (.aload_n 0, 1) := by decide +kernel
theorem dX5_near_27 : decode cX5_near 27 = .ok (.getfield 16, 3) := by decide +kernel
theorem dX5_near_30 : decode cX5_near 30 = .ok (.iload_n 1, 1) := by decide +kernel
theorem dX5_near_31 : decode cX5_near 31 = .ok (.iaload, 1) := by decide +kernel
theorem dX5_near_32 : decode cX5_near 32 = .ok (.iload_n 2, 1) := by decide +kernel
theorem dX5_near_33 : decode cX5_near 33 = .ok (.iload_n 3, 1) := by decide +kernel
theorem dX5_near_34 : decode cX5_near 34 = .ok (.invokevirtual 106, 3) := by decide +kernel
theorem dX5_near_37 : decode cX5_near 37 = .ok (.ifCond .ge 7, 3) := by decide +kernel
theorem dX5_near_40 : decode cX5_near 40 = .ok (.iconst 3, 1) := by decide +kernel
theorem dX5_near_41 : decode cX5_near 41 = .ok (.goto 4, 3) := by decide +kernel
theorem dX5_near_44 : decode cX5_near 44 = .ok (.iconst 0, 1) := by decide +kernel
theorem dX5_near_45 : decode cX5_near 45 = .ok (.invokevirtual 95, 3) := by decide +kernel
theorem dX5_near_48 : decode cX5_near 48 = .ok (.ifCond .eq 5, 3) := by decide +kernel
theorem dX5_near_51 : decode cX5_near 51 = .ok (.iconst 0, 1) := by decide +kernel
theorem dX5_near_52 : decode cX5_near 52 = .ok (.ireturn, 1) := by decide +kernel
theorem dX5_near_53 : decode cX5_near 53 = .ok (.aload_n 0, 1) := by decide +kernel
theorem dX5_near_54 : decode cX5_near 54 = .ok (.getfield 7, 3) := by decide +kernel
theorem dX5_near_57 : decode cX5_near 57 = .ok (.bipush 60, 2) := by decide +kernel
theorem dX5_near_59 : decode cX5_near 59 = .ok (.iload_n 1, 1) := by decide +kernel
theorem dX5_near_60 : decode cX5_near 60 = .ok (.imul, 1) := by decide +kernel
theorem dX5_near_61 : decode cX5_near 61 = .ok (.aload_n 0, 1) := by decide +kernel
theorem dX5_near_62 : decode cX5_near 62 = .ok (.iload_n 1, 1) := by decide +kernel
theorem dX5_near_63 : decode cX5_near 63 = .ok (.iconst 0, 1) := by decide +kernel
theorem dX5_near_64 : decode cX5_near 64 = .ok (.aload_n 0, 1) := by decide +kernel
theorem dX5_near_65 : decode cX5_near 65 = .ok (.getfield 16, 3) := by decide +kernel
theorem dX5_near_68 : decode cX5_near 68 = .ok (.iload_n 1, 1) := by decide +kernel
theorem dX5_near_69 : decode cX5_near 69 = .ok (.iaload, 1) := by decide +kernel
theorem dX5_near_70 : decode cX5_near 70 = .ok (.iload_n 2, 1) := by decide +kernel
theorem dX5_near_71 : decode cX5_near 71 = .ok (.iload_n 3, 1) := by decide +kernel
theorem dX5_near_72 : decode cX5_near 72 = .ok (.invokevirtual 106, 3) := by decide +kernel
theorem dX5_near_75 : decode cX5_near 75 = .ok (.iadd, 1) := by decide +kernel
theorem dX5_near_76 : decode cX5_near 76 = .ok (.iaload, 1) := by decide +kernel
theorem dX5_near_77 : decode cX5_near 77 = .ok (.ireturn, 1) := by decide +kernel
theorem dX5_end_0 : decode cX5_end 0 = .ok (.aload_n 0, 1) := by decide +kernel
theorem dX5_end_1 : decode cX5_end 1 = .ok (.iload_n 1, 1) := by decide +kernel
theorem dX5_end_2 : decode cX5_end 2 = .ok (.invokestatic 87, 3) := by decide +kernel
theorem dX5_end_5 : decode cX5_end 5 = .ok (.ifCond .ne 7, 3) := by decide +kernel
theorem dX5_end_8 : decode cX5_end 8 = .ok (.iconst 1, 1) := by decide +kernel
theorem dX5_end_9 : decode cX5_end 9 = .ok (.goto 17, 3) := by decide +kernel
theorem dX5_end_12 : decode cX5_end 12 = .ok (.aload_n 0, 1) := by decide +kernel
theorem dX5_end_13 : decode cX5_end 13 = .ok (.getfield 16, 3) := by decide +kernel
theorem dX5_end_16 : decode cX5_end 16 = .ok (.iload_n 1, 1) := by decide +kernel
theorem dX5_end_17 : decode cX5_end 17 = .ok (.iaload, 1) := by decide +kernel
theorem dX5_end_18 : decode cX5_end 18 = .ok (.ifCond .ne 7, 3) := by decide +kernel
theorem dX5_end_21 : decode cX5_end 21 = .ok (.iconst 2, 1) := by decide +kernel
theorem dX5_end_22 : decode cX5_end 22 = .ok (.goto 4, 3) := by decide +kernel
theorem dX5_end_25 : decode cX5_end 25 = .ok (.iconst 0, 1) := by decide +kernel
theorem dX5_end_26 : decode cX5_end 26 = .ok (.invokevirtual 95, 3) := by decide +kernel
theorem dX5_end_29 : decode cX5_end 29 = .ok (.ifCond .eq 5, 3) := by decide +kernel
theorem dX5_end_32 : decode cX5_end 32 = .ok (.iconst 0, 1) := by decide +kernel
theorem dX5_end_33 : decode cX5_end 33 = .ok (.ireturn, 1) := by decide +kernel
theorem dX5_end_34 : decode cX5_end 34 = .ok (.aload_n 0, 1) := by decide +kernel
theorem dX5_end_35 : decode cX5_end 35 = .ok (.getfield 7, 3) := by decide +kernel
theorem dX5_end_38 : decode cX5_end 38 = .ok (.bipush 60, 2) := by decide +kernel
theorem dX5_end_40 : decode cX5_end 40 = .ok (.iload_n 1, 1) := by decide +kernel
theorem dX5_end_41 : decode cX5_end 41 = .ok (.imul, 1) := by decide +kernel
theorem dX5_end_42 : decode cX5_end 42 = .ok (.iload_n 2, 1) := by decide +kernel
theorem dX5_end_43 : decode cX5_end 43 = .ok (.ifCond .eq 14, 3) := by decide +kernel
theorem dX5_end_46 : decode cX5_end 46 = .ok (.aload_n 0, 1) := by decide +kernel
theorem dX5_end_47 : decode cX5_end 47 = .ok (.getfield 16, 3) := by decide +kernel
theorem dX5_end_50 : decode cX5_end 50 = .ok (.iload_n 1, 1) := by decide +kernel
theorem dX5_end_51 : decode cX5_end 51 = .ok (.iaload, 1) := by decide +kernel
theorem dX5_end_52 : decode cX5_end 52 = .ok (.iconst 1, 1) := by decide +kernel
theorem dX5_end_53 : decode cX5_end 53 = .ok (.isub, 1) := by decide +kernel
theorem dX5_end_54 : decode cX5_end 54 = .ok (.goto 4, 3) := by decide +kernel
theorem dX5_end_57 : decode cX5_end 57 = .ok (.iconst 0, 1) := by decide +kernel
theorem dX5_end_58 : decode cX5_end 58 = .ok (.iadd, 1) := by decide +kernel
theorem dX5_end_59 : decode cX5_end 59 = .ok (.iaload, 1) := by decide +kernel
theorem dX5_end_60 : decode cX5_end 60 = .ok (.ireturn, 1) := by decide +kernel
theorem dX5_poll_0 : decode cX5_poll 0 = .ok (.aload_n 0, 1) := by decide +kernel
theorem dX5_poll_1 : decode cX5_poll 1 = .ok (.iload_n 1, 1) := by decide +kernel
theorem dX5_poll_2 : decode cX5_poll 2 = .ok (.invokestatic 87, 3) := by decide +kernel
theorem dX5_poll_5 : decode cX5_poll 5 = .ok (.ifCond .ne 7, 3) := by decide +kernel
theorem dX5_poll_8 : decode cX5_poll 8 = .ok (.iconst 1, 1) := by decide +kernel
theorem dX5_poll_9 : decode cX5_poll 9 = .ok (.goto 17, 3) := by decide +kernel
theorem dX5_poll_12 : decode cX5_poll 12 = .ok (.aload_n 0, 1) := by decide +kernel
theorem dX5_poll_13 : decode cX5_poll 13 = .ok (.getfield 16, 3) := by decide +kernel
theorem dX5_poll_16 : decode cX5_poll 16 = .ok (.iload_n 1, 1) := by decide +kernel
theorem dX5_poll_17 : decode cX5_poll 17 = .ok (.iaload, 1) := by decide +kernel
theorem dX5_poll_18 : decode cX5_poll 18 = .ok (.ifCond .ne 7, 3) := by decide +kernel
theorem dX5_poll_21 : decode cX5_poll 21 = .ok (.iconst 2, 1) := by decide +kernel
theorem dX5_poll_22 : decode cX5_poll 22 = .ok (.goto 4, 3) := by decide +kernel
theorem dX5_poll_25 : decode cX5_poll 25 = .ok (.iconst 0, 1) := by decide +kernel
theorem dX5_poll_26 : decode cX5_poll 26 = .ok (.invokevirtual 95, 3) := by decide +kernel
theorem dX5_poll_29 : decode cX5_poll 29 = .ok (.ifCond .eq 5, 3) := by decide +kernel
theorem dX5_poll_32 : decode cX5_poll 32 = .ok (.iconst 0, 1) := by decide +kernel
theorem dX5_poll_33 : decode cX5_poll 33 = .ok (.ireturn, 1) := by decide +kernel
theorem dX5_poll_34 : decode cX5_poll 34 = .ok (.aload_n 0, 1) := by decide +kernel
theorem dX5_poll_35 : decode cX5_poll 35 = .ok (.iload_n 1, 1) := by decide +kernel
theorem dX5_poll_36 : decode cX5_poll 36 = .ok (.iload_n 2, 1) := by decide +kernel
theorem dX5_poll_37 : decode cX5_poll 37 = .ok (.ifCond .eq 14, 3) := by decide +kernel
theorem dX5_poll_40 : decode cX5_poll 40 = .ok (.aload_n 0, 1) := by decide +kernel
theorem dX5_poll_41 : decode cX5_poll 41 = .ok (.getfield 16, 3) := by decide +kernel
theorem dX5_poll_44 : decode cX5_poll 44 = .ok (.iload_n 1, 1) := by decide +kernel
theorem dX5_poll_45 : decode cX5_poll 45 = .ok (.iaload, 1) := by decide +kernel
theorem dX5_poll_46 : decode cX5_poll 46 = .ok (.iconst 1, 1) := by decide +kernel
theorem dX5_poll_47 : decode cX5_poll 47 = .ok (.isub, 1) := by decide +kernel
theorem dX5_poll_48 : decode cX5_poll 48 = .ok (.goto 4, 3) := by decide +kernel
theorem dX5_poll_51 : decode cX5_poll 51 = .ok (.iconst 0, 1) := by decide +kernel
theorem dX5_poll_52 : decode cX5_poll 52 = .ok (.invokevirtual 110, 3) := by decide +kernel
theorem dX5_poll_55 : decode cX5_poll 55 = .ok (.ireturn, 1) := by decide +kernel
theorem dX5_polled_0 : decode cX5_polled 0 = .ok (.aload_n 0, 1) := by decide +kernel
theorem dX5_polled_1 : decode cX5_polled 1 = .ok (.aload_n 0, 1) := by decide +kernel
theorem dX5_polled_2 : decode cX5_polled 2 = .ok (.getfield 72, 3) := by decide +kernel
theorem dX5_polled_5 : decode cX5_polled 5 = .ok (.ifCond .ne 7, 3) := by decide +kernel
theorem dX5_polled_8 : decode cX5_polled 8 = .ok (.iconst 1, 1) := by decide +kernel
theorem dX5_polled_9 : decode cX5_polled 9 = .ok (.goto 4, 3) := by decide +kernel
theorem dX5_polled_12 : decode cX5_polled 12 = .ok (.iconst 0, 1) := by decide +kernel
theorem dX5_polled_13 : decode cX5_polled 13 = .ok (.invokevirtual 95, 3) := by decide +kernel
theorem dX5_polled_16 : decode cX5_polled 16 = .ok (.ifCond .eq 7, 3) := by decide +kernel
theorem dX5_polled_19 : decode cX5_polled 19 = .ok (.iconst 0, 1) := by decide +kernel
theorem dX5_polled_20 : decode cX5_polled 20 = .ok (.goto 7, 3) := by decide +kernel
theorem dX5_polled_23 : decode cX5_polled 23 = .ok (.aload_n 0, 1) := by decide +kernel
theorem dX5_polled_24 : decode cX5_polled 24 = .ok (.getfield 76, 3) := by decide +kernel
theorem dX5_polled_27 : decode cX5_polled 27 = .ok (.ireturn, 1) := by decide +kernel
theorem dX5_drain_0 : decode cX5_drain 0 = .ok (.aload_n 0, 1) := by decide +kernel
theorem dX5_drain_1 : decode cX5_drain 1 = .ok (.iload_n 1, 1) := by decide +kernel
theorem dX5_drain_2 : decode cX5_drain 2 = .ok (.invokestatic 87, 3) := by decide +kernel
theorem dX5_drain_5 : decode cX5_drain 5 = .ok (.ifCond .ne 7, 3) := by decide +kernel
theorem dX5_drain_8 : decode cX5_drain 8 = .ok (.iconst 1, 1) := by decide +kernel
theorem dX5_drain_9 : decode cX5_drain 9 = .ok (.goto 4, 3) := by decide +kernel
theorem dX5_drain_12 : decode cX5_drain 12 = .ok (.iconst 0, 1) := by decide +kernel
theorem dX5_drain_13 : decode cX5_drain 13 = .ok (.invokevirtual 95, 3) := by decide +kernel
theorem dX5_drain_16 : decode cX5_drain 16 = .ok (.ifCond .eq 5, 3) := by decide +kernel
theorem dX5_drain_19 : decode cX5_drain 19 = .ok (.iconst 0, 1) := by decide +kernel
theorem dX5_drain_20 : decode cX5_drain 20 = .ok (.ireturn, 1) := by decide +kernel
theorem dX5_drain_21 : decode cX5_drain 21 = .ok (.aload_n 0, 1) := by decide +kernel
theorem dX5_drain_22 : decode cX5_drain 22 = .ok (.iconst 0, 1) := by decide +kernel
theorem dX5_drain_23 : decode cX5_drain 23 = .ok (.putfield 113, 3) := by decide +kernel
theorem dX5_drain_26 : decode cX5_drain 26 = .ok (.aload_n 0, 1) := by decide +kernel
theorem dX5_drain_27 : decode cX5_drain 27 = .ok (.getfield 16, 3) := by decide +kernel
theorem dX5_drain_30 : decode cX5_drain 30 = .ok (.iload_n 1, 1) := by decide +kernel
theorem dX5_drain_31 : decode cX5_drain 31 = .ok (.iaload, 1) := by decide +kernel
theorem dX5_drain_32 : decode cX5_drain 32 = .ok (.ifCond .le 46, 3) := by decide +kernel
theorem dX5_drain_35 : decode cX5_drain 35 = .ok (.aload_n 0, 1) := by decide +kernel
theorem dX5_drain_36 : decode cX5_drain 36 = .ok (.getfield 57, 3) := by decide +kernel
theorem dX5_drain_39 : decode cX5_drain 39 = .ok (.aload_n 0, 1) := by decide +kernel
theorem dX5_drain_40 : decode cX5_drain 40 = .ok (.getfield 113, 3) := by decide +kernel
theorem dX5_drain_43 : decode cX5_drain 43 = .ok (.aload_n 0, 1) := by decide +kernel
theorem dX5_drain_44 : decode cX5_drain 44 = .ok (.iload_n 1, 1) := by decide +kernel
theorem dX5_drain_45 : decode cX5_drain 45 = .ok (.iload_n 2, 1) := by decide +kernel
theorem dX5_drain_46 : decode cX5_drain 46 = .ok (.ifCond .eq 14, 3) := by decide +kernel
theorem dX5_drain_49 : decode cX5_drain 49 = .ok (.aload_n 0, 1) := by decide +kernel
theorem dX5_drain_50 : decode cX5_drain 50 = .ok (.getfield 16, 3) := by decide +kernel
theorem dX5_drain_53 : decode cX5_drain 53 = .ok (.iload_n 1, 1) := by decide +kernel
theorem dX5_drain_54 : decode cX5_drain 54 = .ok (.iaload, 1) := by decide +kernel
theorem dX5_drain_55 : decode cX5_drain 55 = .ok (.iconst 1, 1) := by decide +kernel
theorem dX5_drain_56 : decode cX5_drain 56 = .ok (.isub, 1) := by decide +kernel
theorem dX5_drain_57 : decode cX5_drain 57 = .ok (.goto 4, 3) := by decide +kernel
theorem dX5_drain_60 : decode cX5_drain 60 = .ok (.iconst 0, 1) := by decide +kernel
theorem dX5_drain_61 : decode cX5_drain 61 = .ok (.invokevirtual 110, 3) := by decide +kernel
theorem dX5_drain_64 : decode cX5_drain 64 = .ok (.iastore, 1) := by decide +kernel
theorem dX5_drain_65 : decode cX5_drain 65 = .ok (.aload_n 0, 1) := by decide +kernel
theorem dX5_drain_66 : decode cX5_drain 66 = .ok (.dup, 1) := by decide +kernel
theorem dX5_drain_67 : decode cX5_drain 67 = .ok (.getfield 113, 3) := by decide +kernel
theorem dX5_drain_70 : decode cX5_drain 70 = .ok (.iconst 1, 1) := by decide +kernel
theorem dX5_drain_71 : decode cX5_drain 71 = .ok (.iadd, 1) := by decide +kernel
theorem dX5_drain_72 : decode cX5_drain 72 = .ok (.putfield 113, 3) := by decide +kernel
theorem dX5_drain_75 : decode cX5_drain 75 = .ok (.goto (-49), 3) := by decide +kernel
theorem dX5_drain_78 : decode cX5_drain 78 = .ok (.aload_n 0, 1) := by decide +kernel
theorem dX5_drain_79 : decode cX5_drain 79 = .ok (.getfield 113, 3) := by decide +kernel
theorem dX5_drain_82 : decode cX5_drain 82 = .ok (.ireturn, 1) := by decide +kernel
theorem dX5_drained_0 : decode cX5_drained 0 = .ok (.aload_n 0, 1) := by decide +kernel
theorem dX5_drained_1 : decode cX5_drained 1 = .ok (.iload_n 1, 1) := by decide +kernel
theorem dX5_drained_2 : decode cX5_drained 2 = .ok (.iconst 0, 1) := by decide +kernel
theorem dX5_drained_3 : decode cX5_drained 3 = .ok (.aload_n 0, 1) := by decide +kernel
theorem dX5_drained_4 : decode cX5_drained 4 = .ok (.getfield 113, 3) := by decide +kernel
theorem dX5_drained_7 : decode cX5_drained 7 = .ok (.iconst 1, 1) := by decide +kernel
theorem dX5_drained_8 : decode cX5_drained 8 = .ok (.isub, 1) := by decide +kernel
theorem dX5_drained_9 : decode cX5_drained 9 = .ok (.invokestatic 64, 3) := by decide +kernel
theorem dX5_drained_12 : decode cX5_drained 12 = .ok (.ifCond .ne 7, 3) := by decide +kernel
theorem dX5_drained_15 : decode cX5_drained 15 = .ok (.iconst 1, 1) := by decide +kernel
theorem dX5_drained_16 : decode cX5_drained 16 = .ok (.goto 4, 3) := by decide +kernel
theorem dX5_drained_19 : decode cX5_drained 19 = .ok (.iconst 0, 1) := by decide +kernel
theorem dX5_drained_20 : decode cX5_drained 20 = .ok (.invokevirtual 95, 3) := by decide +kernel
theorem dX5_drained_23 : decode cX5_drained 23 = .ok (.ifCond .eq 7, 3) := by decide +kernel
theorem dX5_drained_26 : decode cX5_drained 26 = .ok (.iconst 0, 1) := by decide +kernel
theorem dX5_drained_27 : decode cX5_drained 27 = .ok (.goto 9, 3) := by decide +kernel
theorem dX5_drained_30 : decode cX5_drained 30 = .ok (.aload_n 0, 1) := by decide +kernel
theorem dX5_drained_31 : decode cX5_drained 31 = .ok (.getfield 57, 3) := by decide +kernel
theorem dX5_drained_34 : decode cX5_drained 34 = .ok (.iload_n 1, 1) := by decide +kernel
theorem dX5_drained_35 : decode cX5_drained 35 = .ok (.iaload, 1) := by decide +kernel
theorem dX5_drained_36 : decode cX5_drained 36 = .ok (.ireturn, 1) := by decide +kernel
theorem dX5_size_0 : decode cX5_size 0 = .ok (.aload_n 0, 1) := by decide +kernel
theorem dX5_size_1 : decode cX5_size 1 = .ok (.iload_n 1, 1) := by decide +kernel
theorem dX5_size_2 : decode cX5_size 2 = .ok (.invokestatic 87, 3) := by decide +kernel
theorem dX5_size_5 : decode cX5_size 5 = .ok (.ifCond .ne 7, 3) := by decide +kernel
theorem dX5_size_8 : decode cX5_size 8 = .ok (.iconst 1, 1) := by decide +kernel
theorem dX5_size_9 : decode cX5_size 9 = .ok (.goto 4, 3) := by decide +kernel
theorem dX5_size_12 : decode cX5_size 12 = .ok (.iconst 0, 1) := by decide +kernel
theorem dX5_size_13 : decode cX5_size 13 = .ok (.invokevirtual 95, 3) := by decide +kernel
theorem dX5_size_16 : decode cX5_size 16 = .ok (.ifCond .eq 7, 3) := by decide +kernel
theorem dX5_size_19 : decode cX5_size 19 = .ok (.iconst 0, 1) := by decide +kernel
theorem dX5_size_20 : decode cX5_size 20 = .ok (.goto 9, 3) := by decide +kernel
theorem dX5_size_23 : decode cX5_size 23 = .ok (.aload_n 0, 1) := by decide +kernel
theorem dX5_size_24 : decode cX5_size 24 = .ok (.getfield 16, 3) := by decide +kernel
theorem dX5_size_27 : decode cX5_size 27 = .ok (.iload_n 1, 1) := by decide +kernel
theorem dX5_size_28 : decode cX5_size 28 = .ok (.iaload, 1) := by decide +kernel
theorem dX5_size_29 : decode cX5_size 29 = .ok (.ireturn, 1) := by decide +kernel
theorem dX5_keyAt_0 : decode cX5_keyAt 0 = .ok (.aload_n 0, 1) := by decide +kernel
theorem dX5_keyAt_1 : decode cX5_keyAt 1 = .ok (.iload_n 1, 1) := by decide +kernel
theorem dX5_keyAt_2 : decode cX5_keyAt 2 = .ok (.invokestatic 87, 3) := by decide +kernel
theorem dX5_keyAt_5 : decode cX5_keyAt 5 = .ok (.ifCond .eq 19, 3) := by decide +kernel
theorem dX5_keyAt_8 : decode cX5_keyAt 8 = .ok (.iload_n 2, 1) := by decide +kernel
theorem dX5_keyAt_9 : decode cX5_keyAt 9 = .ok (.iconst 0, 1) := by decide +kernel
theorem dX5_keyAt_10 : decode cX5_keyAt 10 = .ok (.aload_n 0, 1) := by decide +kernel
theorem dX5_keyAt_11 : decode cX5_keyAt 11 = .ok (.getfield 16, 3) := by decide +kernel
theorem dX5_keyAt_14 : decode cX5_keyAt 14 = .ok (.iload_n 1, 1) := by decide +kernel
theorem dX5_keyAt_15 : decode cX5_keyAt 15 = .ok (.iaload, 1) := by decide +kernel
theorem dX5_keyAt_16 : decode cX5_keyAt 16 = .ok (.iconst 1, 1) := by decide +kernel
theorem dX5_keyAt_17 : decode cX5_keyAt 17 = .ok (.isub, 1) := by decide +kernel
theorem dX5_keyAt_18 : decode cX5_keyAt 18 = .ok (.invokestatic 64, 3) := by decide +kernel
theorem dX5_keyAt_21 : decode cX5_keyAt 21 = .ok (.ifCond .ne 7, 3) := by decide +kernel
theorem dX5_keyAt_24 : decode cX5_keyAt 24 = .ok (.iconst 1, 1) := by decide +kernel
theorem dX5_keyAt_25 : decode cX5_keyAt 25 = .ok (.goto 4, 3) := by decide +kernel
theorem dX5_keyAt_28 : decode cX5_keyAt 28 = .ok (.iconst 0, 1) := by decide +kernel
theorem dX5_keyAt_29 : decode cX5_keyAt 29 = .ok (.invokevirtual 95, 3) := by decide +kernel
theorem dX5_keyAt_32 : decode cX5_keyAt 32 = .ok (.ifCond .eq 5, 3) := by decide +kernel
theorem dX5_keyAt_35 : decode cX5_keyAt 35 = .ok (.iconst 0, 1) := by decide +kernel
theorem dX5_keyAt_36 : decode cX5_keyAt 36 = .ok (.ireturn, 1) := by decide +kernel
theorem dX5_keyAt_37 : decode cX5_keyAt 37 = .ok (.aload_n 0, 1) := by decide +kernel
theorem dX5_keyAt_38 : decode cX5_keyAt 38 = .ok (.getfield 7, 3) := by decide +kernel
theorem dX5_keyAt_41 : decode cX5_keyAt 41 = .ok (.bipush 60, 2) := by decide +kernel
theorem dX5_keyAt_43 : decode cX5_keyAt 43 = .ok (.iload_n 1, 1) := by decide +kernel
theorem dX5_keyAt_44 : decode cX5_keyAt 44 = .ok (.imul, 1) := by decide +kernel
theorem dX5_keyAt_45 : decode cX5_keyAt 45 = .ok (.iload_n 3, 1) := by decide +kernel
theorem dX5_keyAt_46 : decode cX5_keyAt 46 = .ok (.ifCond .eq 16, 3) := by decide +kernel
theorem dX5_keyAt_49 : decode cX5_keyAt 49 = .ok (.aload_n 0, 1) := by decide +kernel
theorem dX5_keyAt_50 : decode cX5_keyAt 50 = .ok (.getfield 16, 3) := by decide +kernel
theorem dX5_keyAt_53 : decode cX5_keyAt 53 = .ok (.iload_n 1, 1) := by decide +kernel
theorem dX5_keyAt_54 : decode cX5_keyAt 54 = .ok (.iaload, 1) := by decide +kernel
theorem dX5_keyAt_55 : decode cX5_keyAt 55 = .ok (.iconst 1, 1) := by decide +kernel
theorem dX5_keyAt_56 : decode cX5_keyAt 56 = .ok (.isub, 1) := by decide +kernel
theorem dX5_keyAt_57 : decode cX5_keyAt 57 = .ok (.iload_n 2, 1) := by decide +kernel
theorem dX5_keyAt_58 : decode cX5_keyAt 58 = .ok (.isub, 1) := by decide +kernel
theorem dX5_keyAt_59 : decode cX5_keyAt 59 = .ok (.goto 4, 3) := by decide +kernel
theorem dX5_keyAt_62 : decode cX5_keyAt 62 = .ok (.iload_n 2, 1) := by decide +kernel
theorem dX5_keyAt_63 : decode cX5_keyAt 63 = .ok (.iadd, 1) := by decide +kernel
theorem dX5_keyAt_64 : decode cX5_keyAt 64 = .ok (.iaload, 1) := by decide +kernel
theorem dX5_keyAt_65 : decode cX5_keyAt 65 = .ok (.ireturn, 1) := by decide +kernel
theorem dX5_mark_0 : decode cX5_mark 0 = .ok (.aload_n 0, 1) := by decide +kernel
theorem dX5_mark_1 : decode cX5_mark 1 = .ok (.iload_n 1, 1) := by decide +kernel
theorem dX5_mark_2 : decode cX5_mark 2 = .ok (.invokestatic 87, 3) := by decide +kernel
theorem dX5_mark_5 : decode cX5_mark 5 = .ok (.ifCond .ne 7, 3) := by decide +kernel
theorem dX5_mark_8 : decode cX5_mark 8 = .ok (.iconst 1, 1) := by decide +kernel
theorem dX5_mark_9 : decode cX5_mark 9 = .ok (.goto 4, 3) := by decide +kernel
theorem dX5_mark_12 : decode cX5_mark 12 = .ok (.iconst 0, 1) := by decide +kernel
theorem dX5_mark_13 : decode cX5_mark 13 = .ok (.invokevirtual 95, 3) := by decide +kernel
theorem dX5_mark_16 : decode cX5_mark 16 = .ok (.ifCond .eq 5, 3) := by decide +kernel
theorem dX5_mark_19 : decode cX5_mark 19 = .ok (.iconst 0, 1) := by decide +kernel
theorem dX5_mark_20 : decode cX5_mark 20 = .ok (.ireturn, 1) := by decide +kernel
theorem dX5_mark_21 : decode cX5_mark 21 = .ok (.iconst 0, 1) := by decide +kernel
theorem dX5_mark_22 : decode cX5_mark 22 = .ok (.istore_n 2, 1) := by decide +kernel
theorem dX5_mark_23 : decode cX5_mark 23 = .ok (.iconst 0, 1) := by decide +kernel
theorem dX5_mark_24 : decode cX5_mark 24 = .ok (.istore_n 3, 1) := by decide +kernel
theorem dX5_mark_25 : decode cX5_mark 25 = .ok (.iload_n 3, 1) := by decide +kernel
theorem dX5_mark_26 : decode cX5_mark 26 = .ok (.aload_n 0, 1) := by decide +kernel
theorem dX5_mark_27 : decode cX5_mark 27 = .ok (.getfield 16, 3) := by decide +kernel
theorem dX5_mark_30 : decode cX5_mark 30 = .ok (.iload_n 1, 1) := by decide +kernel
theorem dX5_mark_31 : decode cX5_mark 31 = .ok (.iaload, 1) := by decide +kernel
theorem dX5_mark_32 : decode cX5_mark 32 = .ok (.if_icmp .ge 35, 3) := by decide +kernel
theorem dX5_mark_35 : decode cX5_mark 35 = .ok (.iload_n 2, 1) := by decide +kernel
theorem dX5_mark_36 : decode cX5_mark 36 = .ok (.aload_n 0, 1) := by decide +kernel
theorem dX5_mark_37 : decode cX5_mark 37 = .ok (.getfield 7, 3) := by decide +kernel
theorem dX5_mark_40 : decode cX5_mark 40 = .ok (.bipush 60, 2) := by decide +kernel
theorem dX5_mark_42 : decode cX5_mark 42 = .ok (.iload_n 1, 1) := by decide +kernel
theorem dX5_mark_43 : decode cX5_mark 43 = .ok (.imul, 1) := by decide +kernel
theorem dX5_mark_44 : decode cX5_mark 44 = .ok (.iload_n 3, 1) := by decide +kernel
theorem dX5_mark_45 : decode cX5_mark 45 = .ok (.iadd, 1) := by decide +kernel
theorem dX5_mark_46 : decode cX5_mark 46 = .ok (.iaload, 1) := by decide +kernel
theorem dX5_mark_47 : decode cX5_mark 47 = .ok (.aload_n 0, 1) := by decide +kernel
theorem dX5_mark_48 : decode cX5_mark 48 = .ok (.getfield 13, 3) := by decide +kernel
theorem dX5_mark_51 : decode cX5_mark 51 = .ok (.bipush 60, 2) := by decide +kernel
theorem dX5_mark_53 : decode cX5_mark 53 = .ok (.iload_n 1, 1) := by decide +kernel
theorem dX5_mark_54 : decode cX5_mark 54 = .ok (.imul, 1) := by decide +kernel
theorem dX5_mark_55 : decode cX5_mark 55 = .ok (.iload_n 3, 1) := by decide +kernel
theorem dX5_mark_56 : decode cX5_mark 56 = .ok (.iadd, 1) := by decide +kernel
theorem dX5_mark_57 : decode cX5_mark 57 = .ok (.iaload, 1) := by decide +kernel
theorem dX5_mark_58 : decode cX5_mark 58 = .ok (.ixor, 1) := by decide +kernel
theorem dX5_mark_59 : decode cX5_mark 59 = .ok (.iadd, 1) := by decide +kernel
theorem dX5_mark_60 : decode cX5_mark 60 = .ok (.istore_n 2, 1) := by decide +kernel
theorem dX5_mark_61 : decode cX5_mark 61 = .ok (.iinc 3 1, 3) := by decide +kernel
theorem dX5_mark_64 : decode cX5_mark 64 = .ok (.goto (-39), 3) := by decide +kernel
theorem dX5_mark_67 : decode cX5_mark 67 = .ok (.iload_n 2, 1) := by decide +kernel
theorem dX5_mark_68 : decode cX5_mark 68 = .ok (.ireturn, 1) := by decide +kernel
theorem dX5_isLike_0 : decode cX5_isLike 0 = .ok (.aload_n 0, 1) := by decide +kernel
theorem dX5_isLike_1 : decode cX5_isLike 1 = .ok (.iload_n 1, 1) := by decide +kernel
theorem dX5_isLike_2 : decode cX5_isLike 2 = .ok (.invokestatic 87, 3) := by decide +kernel
theorem dX5_isLike_5 : decode cX5_isLike 5 = .ok (.ifCond .eq 10, 3) := by decide +kernel
theorem dX5_isLike_8 : decode cX5_isLike 8 = .ok (.iload_n 2, 1) := by decide +kernel
theorem dX5_isLike_9 : decode cX5_isLike 9 = .ok (.invokestatic 87, 3) := by decide +kernel
theorem dX5_isLike_12 : decode cX5_isLike 12 = .ok (.ifCond .ne 7, 3) := by decide +kernel
theorem dX5_isLike_15 : decode cX5_isLike 15 = .ok (.iconst 1, 1) := by decide +kernel
theorem dX5_isLike_16 : decode cX5_isLike 16 = .ok (.goto 4, 3) := by decide +kernel
theorem dX5_isLike_19 : decode cX5_isLike 19 = .ok (.iconst 0, 1) := by decide +kernel
theorem dX5_isLike_20 : decode cX5_isLike 20 = .ok (.invokevirtual 95, 3) := by decide +kernel
theorem dX5_isLike_23 : decode cX5_isLike 23 = .ok (.ifCond .eq 5, 3) := by decide +kernel
theorem dX5_isLike_26 : decode cX5_isLike 26 = .ok (.iconst 0, 1) := by decide +kernel
theorem dX5_isLike_27 : decode cX5_isLike 27 = .ok (.ireturn, 1) := by decide +kernel
theorem dX5_isLike_28 : decode cX5_isLike 28 = .ok (.aload_n 0, 1) := by decide +kernel
theorem dX5_isLike_29 : decode cX5_isLike 29 = .ok (.getfield 16, 3) := by decide +kernel
theorem dX5_isLike_32 : decode cX5_isLike 32 = .ok (.iload_n 1, 1) := by decide +kernel
theorem dX5_isLike_33 : decode cX5_isLike 33 = .ok (.iaload, 1) := by decide +kernel
theorem dX5_isLike_34 : decode cX5_isLike 34 = .ok (.aload_n 0, 1) := by decide +kernel
theorem dX5_isLike_35 : decode cX5_isLike 35 = .ok (.getfield 16, 3) := by decide +kernel
theorem dX5_isLike_38 : decode cX5_isLike 38 = .ok (.iload_n 2, 1) := by decide +kernel
theorem dX5_isLike_39 : decode cX5_isLike 39 = .ok (.iaload, 1) := by decide +kernel
theorem dX5_isLike_40 : decode cX5_isLike 40 = .ok (.if_icmp .ne 7, 3) := by decide +kernel
theorem dX5_isLike_43 : decode cX5_isLike 43 = .ok (.iconst 1, 1) := by decide +kernel
theorem dX5_isLike_44 : decode cX5_isLike 44 = .ok (.goto 4, 3) := by decide +kernel
theorem dX5_isLike_47 : decode cX5_isLike 47 = .ok (.iconst 0, 1) := by decide +kernel
theorem dX5_isLike_48 : decode cX5_isLike 48 = .ok (.istore_n 3, 1) := by decide +kernel
theorem dX5_isLike_49 : decode cX5_isLike 49 = .ok (.iconst 0, 1) := by decide +kernel
theorem dX5_isLike_50 : decode cX5_isLike 50 = .ok (.istore 4, 2) := by decide +kernel
theorem dX5_isLike_52 : decode cX5_isLike 52 = .ok (.iload 4, 2) := by decide +kernel
theorem dX5_isLike_54 : decode cX5_isLike 54 = .ok (.aload_n 0, 1) := by decide +kernel
theorem dX5_isLike_55 : decode cX5_isLike 55 = .ok (.getfield 16, 3) := by decide +kernel
theorem dX5_isLike_58 : decode cX5_isLike 58 = .ok (.iload_n 1, 1) := by decide +kernel
theorem dX5_isLike_59 : decode cX5_isLike 59 = .ok (.iaload, 1) := by decide +kernel
theorem dX5_isLike_60 : decode cX5_isLike 60 = .ok (.if_icmp .ge 73, 3) := by decide +kernel
theorem dX5_isLike_63 : decode cX5_isLike 63 = .ok (.iload_n 3, 1) := by decide +kernel
theorem dX5_isLike_64 : decode cX5_isLike 64 = .ok (.ifCond .eq 69, 3) := by decide +kernel
theorem dX5_isLike_67 : decode cX5_isLike 67 = .ok (.aload_n 0, 1) := by decide +kernel
theorem dX5_isLike_68 : decode cX5_isLike 68 = .ok (.getfield 7, 3) := by decide +kernel
theorem dX5_isLike_71 : decode cX5_isLike 71 = .ok (.bipush 60, 2) := by decide +kernel
theorem dX5_isLike_73 : decode cX5_isLike 73 = .ok (.iload_n 1, 1) := by decide +kernel
theorem dX5_isLike_74 : decode cX5_isLike 74 = .ok (.imul, 1) := by decide +kernel
theorem dX5_isLike_75 : decode cX5_isLike 75 = .ok (.iload 4, 2) := by decide +kernel
theorem dX5_isLike_77 : decode cX5_isLike 77 = .ok (.iadd, 1) := by decide +kernel
theorem dX5_isLike_78 : decode cX5_isLike 78 = .ok (.iaload, 1) := by decide +kernel
theorem dX5_isLike_79 : decode cX5_isLike 79 = .ok (.aload_n 0, 1) := by decide +kernel
theorem dX5_isLike_80 : decode cX5_isLike 80 = .ok (.getfield 7, 3) := by decide +kernel
theorem dX5_isLike_83 : decode cX5_isLike 83 = .ok (.bipush 60, 2) := by decide +kernel
theorem dX5_isLike_85 : decode cX5_isLike 85 = .ok (.iload_n 2, 1) := by decide +kernel
theorem dX5_isLike_86 : decode cX5_isLike 86 = .ok (.imul, 1) := by decide +kernel
theorem dX5_isLike_87 : decode cX5_isLike 87 = .ok (.iload 4, 2) := by decide +kernel
theorem dX5_isLike_89 : decode cX5_isLike 89 = .ok (.iadd, 1) := by decide +kernel
theorem dX5_isLike_90 : decode cX5_isLike 90 = .ok (.iaload, 1) := by decide +kernel
theorem dX5_isLike_91 : decode cX5_isLike 91 = .ok (.if_icmp .ne 34, 3) := by decide +kernel
theorem dX5_isLike_94 : decode cX5_isLike 94 = .ok (.aload_n 0, 1) := by decide +kernel
theorem dX5_isLike_95 : decode cX5_isLike 95 = .ok (.getfield 13, 3) := by decide +kernel
theorem dX5_isLike_98 : decode cX5_isLike 98 = .ok (.bipush 60, 2) := by decide +kernel
theorem dX5_isLike_100 : decode cX5_isLike 100 = .ok (.iload_n 1, 1) := by decide +kernel
theorem dX5_isLike_101 : decode cX5_isLike 101 = .ok (.imul, 1) := by decide +kernel
theorem dX5_isLike_102 : decode cX5_isLike 102 = .ok (.iload 4, 2) := by decide +kernel
theorem dX5_isLike_104 : decode cX5_isLike 104 = .ok (.iadd, 1) := by decide +kernel
theorem dX5_isLike_105 : decode cX5_isLike 105 = .ok (.iaload, 1) := by decide +kernel
theorem dX5_isLike_106 : decode cX5_isLike 106 = .ok (.aload_n 0, 1) := by decide +kernel
theorem dX5_isLike_107 : decode cX5_isLike 107 = .ok (.getfield 13, 3) := by decide +kernel
theorem dX5_isLike_110 : decode cX5_isLike 110 = .ok (.bipush 60, 2) := by decide +kernel
theorem dX5_isLike_112 : decode cX5_isLike 112 = .ok (.iload_n 2, 1) := by decide +kernel
theorem dX5_isLike_113 : decode cX5_isLike 113 = .ok (.imul, 1) := by decide +kernel
theorem dX5_isLike_114 : decode cX5_isLike 114 = .ok (.iload 4, 2) := by decide +kernel
theorem dX5_isLike_116 : decode cX5_isLike 116 = .ok (.iadd, 1) := by decide +kernel
theorem dX5_isLike_117 : decode cX5_isLike 117 = .ok (.iaload, 1) := by decide +kernel
theorem dX5_isLike_118 : decode cX5_isLike 118 = .ok (.if_icmp .ne 7, 3) := by decide +kernel
theorem dX5_isLike_121 : decode cX5_isLike 121 = .ok (.iconst 1, 1) := by decide +kernel
theorem dX5_isLike_122 : decode cX5_isLike 122 = .ok (.goto 4, 3) := by decide +kernel
theorem dX5_isLike_125 : decode cX5_isLike 125 = .ok (.iconst 0, 1) := by decide +kernel
theorem dX5_isLike_126 : decode cX5_isLike 126 = .ok (.istore_n 3, 1) := by decide +kernel
theorem dX5_isLike_127 : decode cX5_isLike 127 = .ok (.iinc 4 1, 3) := by decide +kernel
theorem dX5_isLike_130 : decode cX5_isLike 130 = .ok (.goto (-78), 3) := by decide +kernel
theorem dX5_isLike_133 : decode cX5_isLike 133 = .ok (.iload_n 3, 1) := by decide +kernel
theorem dX5_isLike_134 : decode cX5_isLike 134 = .ok (.ireturn, 1) := by decide +kernel
theorem dX5_isIn_0 : decode cX5_isIn 0 = .ok (.aload_n 0, 1) := by decide +kernel
theorem dX5_isIn_1 : decode cX5_isIn 1 = .ok (.getfield 32, 3) := by decide +kernel
theorem dX5_isIn_4 : decode cX5_isIn 4 = .ok (.iload_n 1, 1) := by decide +kernel
theorem dX5_isIn_5 : decode cX5_isIn 5 = .ok (.baload, 1) := by decide +kernel
theorem dX5_isIn_6 : decode cX5_isIn 6 = .ok (.ifCond .eq 21, 3) := by decide +kernel
theorem dX5_isIn_9 : decode cX5_isIn 9 = .ok (.iload_n 2, 1) := by decide +kernel
theorem dX5_isIn_10 : decode cX5_isIn 10 = .ok (.aload_n 0, 1) := by decide +kernel
theorem dX5_isIn_11 : decode cX5_isIn 11 = .ok (.getfield 26, 3) := by decide +kernel
theorem dX5_isIn_14 : decode cX5_isIn 14 = .ok (.iload_n 1, 1) := by decide +kernel
theorem dX5_isIn_15 : decode cX5_isIn 15 = .ok (.iaload, 1) := by decide +kernel
theorem dX5_isIn_16 : decode cX5_isIn 16 = .ok (.if_icmp .lt 7, 3) := by decide +kernel
theorem dX5_isIn_19 : decode cX5_isIn 19 = .ok (.iconst 1, 1) := by decide +kernel
theorem dX5_isIn_20 : decode cX5_isIn 20 = .ok (.goto 22, 3) := by decide +kernel
theorem dX5_isIn_23 : decode cX5_isIn 23 = .ok (.iconst 0, 1) := by decide +kernel
theorem dX5_isIn_24 : decode cX5_isIn 24 = .ok (.goto 18, 3) := by decide +kernel
theorem dX5_isIn_27 : decode cX5_isIn 27 = .ok (.iload_n 2, 1) := by decide +kernel
theorem dX5_isIn_28 : decode cX5_isIn 28 = .ok (.aload_n 0, 1) := by decide +kernel
theorem dX5_isIn_29 : decode cX5_isIn 29 = .ok (.getfield 26, 3) := by decide +kernel
theorem dX5_isIn_32 : decode cX5_isIn 32 = .ok (.iload_n 1, 1) := by decide +kernel
theorem dX5_isIn_33 : decode cX5_isIn 33 = .ok (.iaload, 1) := by decide +kernel
theorem dX5_isIn_34 : decode cX5_isIn 34 = .ok (.if_icmp .le 7, 3) := by decide +kernel
theorem dX5_isIn_37 : decode cX5_isIn 37 = .ok (.iconst 1, 1) := by decide +kernel
theorem dX5_isIn_38 : decode cX5_isIn 38 = .ok (.goto 4, 3) := by decide +kernel
theorem dX5_isIn_41 : decode cX5_isIn 41 = .ok (.iconst 0, 1) := by decide +kernel
theorem dX5_isIn_42 : decode cX5_isIn 42 = .ok (.istore_n 3, 1) := by decide +kernel
theorem dX5_isIn_43 : decode cX5_isIn 43 = .ok (.aload_n 0, 1) := by decide +kernel
theorem dX5_isIn_44 : decode cX5_isIn 44 = .ok (.getfield 35, 3) := by decide +kernel
theorem dX5_isIn_47 : decode cX5_isIn 47 = .ok (.iload_n 1, 1) := by decide +kernel
theorem dX5_isIn_48 : decode cX5_isIn 48 = .ok (.baload, 1) := by decide +kernel
theorem dX5_isIn_49 : decode cX5_isIn 49 = .ok (.ifCond .eq 21, 3) := by decide +kernel
theorem dX5_isIn_52 : decode cX5_isIn 52 = .ok (.iload_n 2, 1) := by decide +kernel
theorem dX5_isIn_53 : decode cX5_isIn 53 = .ok (.aload_n 0, 1) := by decide +kernel
theorem dX5_isIn_54 : decode cX5_isIn 54 = .ok (.getfield 29, 3) := by decide +kernel
theorem dX5_isIn_57 : decode cX5_isIn 57 = .ok (.iload_n 1, 1) := by decide +kernel
theorem dX5_isIn_58 : decode cX5_isIn 58 = .ok (.iaload, 1) := by decide +kernel
theorem dX5_isIn_59 : decode cX5_isIn 59 = .ok (.if_icmp .gt 7, 3) := by decide +kernel
theorem dX5_isIn_62 : decode cX5_isIn 62 = .ok (.iconst 1, 1) := by decide +kernel
theorem dX5_isIn_63 : decode cX5_isIn 63 = .ok (.goto 22, 3) := by decide +kernel
theorem dX5_isIn_66 : decode cX5_isIn 66 = .ok (.iconst 0, 1) := by decide +kernel
theorem dX5_isIn_67 : decode cX5_isIn 67 = .ok (.goto 18, 3) := by decide +kernel
theorem dX5_isIn_70 : decode cX5_isIn 70 = .ok (.iload_n 2, 1) := by decide +kernel
theorem dX5_isIn_71 : decode cX5_isIn 71 = .ok (.aload_n 0, 1) := by decide +kernel
theorem dX5_isIn_72 : decode cX5_isIn 72 = .ok (.getfield 29, 3) := by decide +kernel
theorem dX5_isIn_75 : decode cX5_isIn 75 = .ok (.iload_n 1, 1) := by decide +kernel
theorem dX5_isIn_76 : decode cX5_isIn 76 = .ok (.iaload, 1) := by decide +kernel
theorem dX5_isIn_77 : decode cX5_isIn 77 = .ok (.if_icmp .ge 7, 3) := by decide +kernel
theorem dX5_isIn_80 : decode cX5_isIn 80 = .ok (.iconst 1, 1) := by decide +kernel
theorem dX5_isIn_81 : decode cX5_isIn 81 = .ok (.goto 4, 3) := by decide +kernel
theorem dX5_isIn_84 : decode cX5_isIn 84 = .ok (.iconst 0, 1) := by decide +kernel
theorem dX5_isIn_85 : decode cX5_isIn 85 = .ok (.istore 4, 2) := by decide +kernel
theorem dX5_isIn_87 : decode cX5_isIn 87 = .ok (.iload_n 3, 1) := by decide +kernel
theorem dX5_isIn_88 : decode cX5_isIn 88 = .ok (.ifCond .eq 12, 3) := by decide +kernel
theorem dX5_isIn_91 : decode cX5_isIn 91 = .ok (.iload 4, 2) := by decide +kernel
theorem dX5_isIn_93 : decode cX5_isIn 93 = .ok (.ifCond .eq 7, 3) := by decide +kernel
theorem dX5_isIn_96 : decode cX5_isIn 96 = .ok (.iconst 1, 1) := by decide +kernel
theorem dX5_isIn_97 : decode cX5_isIn 97 = .ok (.goto 4, 3) := by decide +kernel
theorem dX5_isIn_100 : decode cX5_isIn 100 = .ok (.iconst 0, 1) := by decide +kernel
theorem dX5_isIn_101 : decode cX5_isIn 101 = .ok (.ireturn, 1) := by decide +kernel
theorem dX5_firstOf_0 : decode cX5_firstOf 0 = .ok (.aload_n 0, 1) := by decide +kernel
theorem dX5_firstOf_1 : decode cX5_firstOf 1 = .ok (.getfield 23, 3) := by decide +kernel
theorem dX5_firstOf_4 : decode cX5_firstOf 4 = .ok (.iload_n 1, 1) := by decide +kernel
theorem dX5_firstOf_5 : decode cX5_firstOf 5 = .ok (.iaload, 1) := by decide +kernel
theorem dX5_firstOf_6 : decode cX5_firstOf 6 = .ok (.istore_n 2, 1) := by decide +kernel
theorem dX5_firstOf_7 : decode cX5_firstOf 7 = .ok (.iconst 0, 1) := by decide +kernel
theorem dX5_firstOf_8 : decode cX5_firstOf 8 = .ok (.istore_n 3, 1) := by decide +kernel
theorem dX5_firstOf_9 : decode cX5_firstOf 9 = .ok (.iload_n 3, 1) := by decide +kernel
theorem dX5_firstOf_10 : decode cX5_firstOf 10 = .ok (.aload_n 0, 1) := by decide +kernel
theorem dX5_firstOf_11 : decode cX5_firstOf 11 = .ok (.getfield 16, 3) := by decide +kernel
theorem dX5_firstOf_14 : decode cX5_firstOf 14 = .ok (.iload_n 2, 1) := by decide +kernel
theorem dX5_firstOf_15 : decode cX5_firstOf 15 = .ok (.iaload, 1) := by decide +kernel
theorem dX5_firstOf_16 : decode cX5_firstOf 16 = .ok (.if_icmp .ge 58, 3) := by decide +kernel
theorem dX5_firstOf_19 : decode cX5_firstOf 19 = .ok (.aload_n 0, 1) := by decide +kernel
theorem dX5_firstOf_20 : decode cX5_firstOf 20 = .ok (.getfield 7, 3) := by decide +kernel
theorem dX5_firstOf_23 : decode cX5_firstOf 23 = .ok (.bipush 60, 2) := by decide +kernel
theorem dX5_firstOf_25 : decode cX5_firstOf 25 = .ok (.iload_n 2, 1) := by decide +kernel
theorem dX5_firstOf_26 : decode cX5_firstOf 26 = .ok (.imul, 1) := by decide +kernel
theorem dX5_firstOf_27 : decode cX5_firstOf 27 = .ok (.iload_n 3, 1) := by decide +kernel
theorem dX5_firstOf_28 : decode cX5_firstOf 28 = .ok (.iadd, 1) := by decide +kernel
theorem dX5_firstOf_29 : decode cX5_firstOf 29 = .ok (.iaload, 1) := by decide +kernel
theorem dX5_firstOf_30 : decode cX5_firstOf 30 = .ok (.aload_n 0, 1) := by decide +kernel
theorem dX5_firstOf_31 : decode cX5_firstOf 31 = .ok (.getfield 26, 3) := by decide +kernel
theorem dX5_firstOf_34 : decode cX5_firstOf 34 = .ok (.iload_n 1, 1) := by decide +kernel
theorem dX5_firstOf_35 : decode cX5_firstOf 35 = .ok (.iaload, 1) := by decide +kernel
theorem dX5_firstOf_36 : decode cX5_firstOf 36 = .ok (.if_icmp .lt 32, 3) := by decide +kernel
theorem dX5_firstOf_39 : decode cX5_firstOf 39 = .ok (.aload_n 0, 1) := by decide +kernel
theorem dX5_firstOf_40 : decode cX5_firstOf 40 = .ok (.getfield 7, 3) := by decide +kernel
theorem dX5_firstOf_43 : decode cX5_firstOf 43 = .ok (.bipush 60, 2) := by decide +kernel
theorem dX5_firstOf_45 : decode cX5_firstOf 45 = .ok (.iload_n 2, 1) := by decide +kernel
theorem dX5_firstOf_46 : decode cX5_firstOf 46 = .ok (.imul, 1) := by decide +kernel
theorem dX5_firstOf_47 : decode cX5_firstOf 47 = .ok (.iload_n 3, 1) := by decide +kernel
theorem dX5_firstOf_48 : decode cX5_firstOf 48 = .ok (.iadd, 1) := by decide +kernel
theorem dX5_firstOf_49 : decode cX5_firstOf 49 = .ok (.iaload, 1) := by decide +kernel
theorem dX5_firstOf_50 : decode cX5_firstOf 50 = .ok (.aload_n 0, 1) := by decide +kernel
theorem dX5_firstOf_51 : decode cX5_firstOf 51 = .ok (.getfield 26, 3) := by decide +kernel
theorem dX5_firstOf_54 : decode cX5_firstOf 54 = .ok (.iload_n 1, 1) := by decide +kernel
theorem dX5_firstOf_55 : decode cX5_firstOf 55 = .ok (.iaload, 1) := by decide +kernel
theorem dX5_firstOf_56 : decode cX5_firstOf 56 = .ok (.if_icmp .ne 18, 3) := by decide +kernel
theorem dX5_firstOf_59 : decode cX5_firstOf 59 = .ok (.aload_n 0, 1) := by decide +kernel
theorem dX5_firstOf_60 : decode cX5_firstOf 60 = .ok (.getfield 32, 3) := by decide +kernel
theorem dX5_firstOf_63 : decode cX5_firstOf 63 = .ok (.iload_n 1, 1) := by decide +kernel
theorem dX5_firstOf_64 : decode cX5_firstOf 64 = .ok (.baload, 1) := by decide +kernel
theorem dX5_firstOf_65 : decode cX5_firstOf 65 = .ok (.ifCond .ne 9, 3) := by decide +kernel
theorem dX5_firstOf_68 : decode cX5_firstOf 68 = .ok (.iinc 3 1, 3) := by decide +kernel
theorem dX5_firstOf_71 : decode cX5_firstOf 71 = .ok (.goto (-62), 3) := by decide +kernel
theorem dX5_firstOf_74 : decode cX5_firstOf 74 = .ok (.iload_n 3, 1) := by decide +kernel
theorem dX5_firstOf_75 : decode cX5_firstOf 75 = .ok (.ireturn, 1) := by decide +kernel
theorem dX5_behindOf_0 : decode cX5_behindOf 0 = .ok (.aload_n 0, 1) := by decide +kernel
theorem dX5_behindOf_1 : decode cX5_behindOf 1 = .ok (.getfield 23, 3) := by decide +kernel
theorem dX5_behindOf_4 : decode cX5_behindOf 4 = .ok (.iload_n 1, 1) := by decide +kernel
theorem dX5_behindOf_5 : decode cX5_behindOf 5 = .ok (.iaload, 1) := by decide +kernel
theorem dX5_behindOf_6 : decode cX5_behindOf 6 = .ok (.istore_n 2, 1) := by decide +kernel
theorem dX5_behindOf_7 : decode cX5_behindOf 7 = .ok (.aload_n 0, 1) := by decide +kernel
theorem dX5_behindOf_8 : decode cX5_behindOf 8 = .ok (.iload_n 1, 1) := by decide +kernel
theorem dX5_behindOf_9 : decode cX5_behindOf 9 = .ok (.invokevirtual 116, 3) := by decide +kernel
theorem dX5_behindOf_12 : decode cX5_behindOf 12 = .ok (.istore_n 3, 1) := by decide +kernel
theorem dX5_behindOf_13 : decode cX5_behindOf 13 = .ok (.iload_n 3, 1) := by decide +kernel
theorem dX5_behindOf_14 : decode cX5_behindOf 14 = .ok (.aload_n 0, 1) := by decide +kernel
theorem dX5_behindOf_15 : decode cX5_behindOf 15 = .ok (.getfield 16, 3) := by decide +kernel
theorem dX5_behindOf_18 : decode cX5_behindOf 18 = .ok (.iload_n 2, 1) := by decide +kernel
theorem dX5_behindOf_19 : decode cX5_behindOf 19 = .ok (.iaload, 1) := by decide +kernel
theorem dX5_behindOf_20 : decode cX5_behindOf 20 = .ok (.if_icmp .ge 28, 3) := by decide +kernel
theorem dX5_behindOf_23 : decode cX5_behindOf 23 = .ok (.aload_n 0, 1) := by decide +kernel
theorem dX5_behindOf_24 : decode cX5_behindOf 24 = .ok (.iload_n 1, 1) := by decide +kernel
theorem dX5_behindOf_25 : decode cX5_behindOf 25 = .ok (.aload_n 0, 1) := by decide +kernel
theorem dX5_behindOf_26 : decode cX5_behindOf 26 = .ok (.getfield 7, 3) := by decide +kernel
theorem dX5_behindOf_29 : decode cX5_behindOf 29 = .ok (.bipush 60, 2) := by decide +kernel
theorem dX5_behindOf_31 : decode cX5_behindOf 31 = .ok (.iload_n 2, 1) := by decide +kernel
theorem dX5_behindOf_32 : decode cX5_behindOf 32 = .ok (.imul, 1) := by decide +kernel
theorem dX5_behindOf_33 : decode cX5_behindOf 33 = .ok (.iload_n 3, 1) := by decide +kernel
theorem dX5_behindOf_34 : decode cX5_behindOf 34 = .ok (.iadd, 1) := by decide +kernel
theorem dX5_behindOf_35 : decode cX5_behindOf 35 = .ok (.iaload, 1) := by decide +kernel
theorem dX5_behindOf_36 : decode cX5_behindOf 36 = .ok (.invokevirtual 120, 3) := by decide +kernel
theorem dX5_behindOf_39 : decode cX5_behindOf 39 = .ok (.ifCond .eq 9, 3) := by decide +kernel
theorem dX5_behindOf_42 : decode cX5_behindOf 42 = .ok (.iinc 3 1, 3) := by decide +kernel
theorem dX5_behindOf_45 : decode cX5_behindOf 45 = .ok (.goto (-32), 3) := by decide +kernel
theorem dX5_behindOf_48 : decode cX5_behindOf 48 = .ok (.iload_n 3, 1) := by decide +kernel
theorem dX5_behindOf_49 : decode cX5_behindOf 49 = .ok (.ireturn, 1) := by decide +kernel
theorem dX5_manyOf_0 : decode cX5_manyOf 0 = .ok (.aload_n 0, 1) := by decide +kernel
theorem dX5_manyOf_1 : decode cX5_manyOf 1 = .ok (.iload_n 1, 1) := by decide +kernel
theorem dX5_manyOf_2 : decode cX5_manyOf 2 = .ok (.invokevirtual 123, 3) := by decide +kernel
theorem dX5_manyOf_5 : decode cX5_manyOf 5 = .ok (.aload_n 0, 1) := by decide +kernel
theorem dX5_manyOf_6 : decode cX5_manyOf 6 = .ok (.iload_n 1, 1) := by decide +kernel
theorem dX5_manyOf_7 : decode cX5_manyOf 7 = .ok (.invokevirtual 116, 3) := by decide +kernel
theorem dX5_manyOf_10 : decode cX5_manyOf 10 = .ok (.isub, 1) := by decide +kernel
theorem dX5_manyOf_11 : decode cX5_manyOf 11 = .ok (.ireturn, 1) := by decide +kernel
theorem dX5_open_0 : decode cX5_open 0 = .ok (.aload_n 0, 1) := by decide +kernel
theorem dX5_open_1 : decode cX5_open 1 = .ok (.iload_n 1, 1) := by decide +kernel
theorem dX5_open_2 : decode cX5_open 2 = .ok (.invokestatic 126, 3) := by decide +kernel
theorem dX5_open_5 : decode cX5_open 5 = .ok (.ifCond .eq 10, 3) := by decide +kernel
theorem dX5_open_8 : decode cX5_open 8 = .ok (.iload_n 2, 1) := by decide +kernel
theorem dX5_open_9 : decode cX5_open 9 = .ok (.invokestatic 87, 3) := by decide +kernel
theorem dX5_open_12 : decode cX5_open 12 = .ok (.ifCond .ne 7, 3) := by decide +kernel
theorem dX5_open_15 : decode cX5_open 15 = .ok (.iconst 1, 1) := by decide +kernel
theorem dX5_open_16 : decode cX5_open 16 = .ok (.goto 14, 3) := by decide +kernel
theorem dX5_open_19 : decode cX5_open 19 = .ok (.iload 5, 2) := by decide +kernel
theorem dX5_open_21 : decode cX5_open 21 = .ok (.iload_n 3, 1) := by decide +kernel
theorem dX5_open_22 : decode cX5_open 22 = .ok (.if_icmp .ge 7, 3) := by decide +kernel
theorem dX5_open_25 : decode cX5_open 25 = .ok (.iconst 2, 1) := by decide +kernel
theorem dX5_open_26 : decode cX5_open 26 = .ok (.goto 4, 3) := by decide +kernel
theorem dX5_open_29 : decode cX5_open 29 = .ok (.iconst 0, 1) := by decide +kernel
theorem dX5_open_30 : decode cX5_open 30 = .ok (.invokevirtual 95, 3) := by decide +kernel
theorem dX5_open_33 : decode cX5_open 33 = .ok (.ifCond .eq 5, 3) := by decide +kernel
theorem dX5_open_36 : decode cX5_open 36 = .ok (.iconst 0, 1) := by decide +kernel
theorem dX5_open_37 : decode cX5_open 37 = .ok (.ireturn, 1) := by decide +kernel
theorem dX5_open_38 : decode cX5_open 38 = .ok (.aload_n 0, 1) := by decide +kernel
theorem dX5_open_39 : decode cX5_open 39 = .ok (.getfield 19, 3) := by decide +kernel
theorem dX5_open_42 : decode cX5_open 42 = .ok (.iload_n 1, 1) := by decide +kernel
theorem dX5_open_43 : decode cX5_open 43 = .ok (.iconst 1, 1) := by decide +kernel
theorem dX5_open_44 : decode cX5_open 44 = .ok (.bastore, 1) := by decide +kernel
theorem dX5_open_45 : decode cX5_open 45 = .ok (.aload_n 0, 1) := by decide +kernel
theorem dX5_open_46 : decode cX5_open 46 = .ok (.getfield 23, 3) := by decide +kernel
theorem dX5_open_49 : decode cX5_open 49 = .ok (.iload_n 1, 1) := by decide +kernel
theorem dX5_open_50 : decode cX5_open 50 = .ok (.iload_n 2, 1) := by decide +kernel
theorem dX5_open_51 : decode cX5_open 51 = .ok (.iastore, 1) := by decide +kernel
theorem dX5_open_52 : decode cX5_open 52 = .ok (.aload_n 0, 1) := by decide +kernel
theorem dX5_open_53 : decode cX5_open 53 = .ok (.getfield 26, 3) := by decide +kernel
theorem dX5_open_56 : decode cX5_open 56 = .ok (.iload_n 1, 1) := by decide +kernel
theorem dX5_open_57 : decode cX5_open 57 = .ok (.iload_n 3, 1) := by decide +kernel
theorem dX5_open_58 : decode cX5_open 58 = .ok (.iastore, 1) := by decide +kernel
theorem dX5_open_59 : decode cX5_open 59 = .ok (.aload_n 0, 1) := by decide +kernel
theorem dX5_open_60 : decode cX5_open 60 = .ok (.getfield 32, 3) := by decide +kernel
theorem dX5_open_63 : decode cX5_open 63 = .ok (.iload_n 1, 1) := by decide +kernel
theorem dX5_open_64 : decode cX5_open 64 = .ok (.iload 4, 2) := by decide +kernel
theorem dX5_open_66 : decode cX5_open 66 = .ok (.bastore, 1) := by decide +kernel
theorem dX5_open_67 : decode cX5_open 67 = .ok (.aload_n 0, 1) := by decide +kernel
theorem dX5_open_68 : decode cX5_open 68 = .ok (.getfield 29, 3) := by decide +kernel
theorem dX5_open_71 : decode cX5_open 71 = .ok (.iload_n 1, 1) := by decide +kernel
theorem dX5_open_72 : decode cX5_open 72 = .ok (.iload 5, 2) := by decide +kernel
theorem dX5_open_74 : decode cX5_open 74 = .ok (.iastore, 1) := by decide +kernel
theorem dX5_open_75 : decode cX5_open 75 = .ok (.aload_n 0, 1) := by decide +kernel
theorem dX5_open_76 : decode cX5_open 76 = .ok (.getfield 35, 3) := by decide +kernel
theorem dX5_open_79 : decode cX5_open 79 = .ok (.iload_n 1, 1) := by decide +kernel
theorem dX5_open_80 : decode cX5_open 80 = .ok (.iload 6, 2) := by decide +kernel
theorem dX5_open_82 : decode cX5_open 82 = .ok (.bastore, 1) := by decide +kernel
theorem dX5_open_83 : decode cX5_open 83 = .ok (.aload_n 0, 1) := by decide +kernel
theorem dX5_open_84 : decode cX5_open 84 = .ok (.getfield 38, 3) := by decide +kernel
theorem dX5_open_87 : decode cX5_open 87 = .ok (.iload_n 1, 1) := by decide +kernel
theorem dX5_open_88 : decode cX5_open 88 = .ok (.iconst 0, 1) := by decide +kernel
theorem dX5_open_89 : decode cX5_open 89 = .ok (.iastore, 1) := by decide +kernel
theorem dX5_open_90 : decode cX5_open 90 = .ok (.aload_n 0, 1) := by decide +kernel
theorem dX5_open_91 : decode cX5_open 91 = .ok (.iload_n 1, 1) := by decide +kernel
theorem dX5_open_92 : decode cX5_open 92 = .ok (.invokevirtual 129, 3) := by decide +kernel
theorem dX5_open_95 : decode cX5_open 95 = .ok (.ireturn, 1) := by decide +kernel
theorem dX5_cut_0 : decode cX5_cut 0 = .ok (.aload_n 0, 1) := by decide +kernel
theorem dX5_cut_1 : decode cX5_cut 1 = .ok (.iload_n 1, 1) := by decide +kernel
theorem dX5_cut_2 : decode cX5_cut 2 = .ok (.invokestatic 126, 3) := by decide +kernel
theorem dX5_cut_5 : decode cX5_cut 5 = .ok (.ifCond .eq 10, 3) := by decide +kernel
theorem dX5_cut_8 : decode cX5_cut 8 = .ok (.iload_n 2, 1) := by decide +kernel
theorem dX5_cut_9 : decode cX5_cut 9 = .ok (.invokestatic 126, 3) := by decide +kernel
theorem dX5_cut_12 : decode cX5_cut 12 = .ok (.ifCond .ne 7, 3) := by decide +kernel
theorem dX5_cut_15 : decode cX5_cut 15 = .ok (.iconst 1, 1) := by decide +kernel
theorem dX5_cut_16 : decode cX5_cut 16 = .ok (.goto 46, 3) := by decide +kernel
theorem dX5_cut_19 : decode cX5_cut 19 = .ok (.aload_n 0, 1) := by decide +kernel
theorem dX5_cut_20 : decode cX5_cut 20 = .ok (.getfield 19, 3) := by decide +kernel
theorem dX5_cut_23 : decode cX5_cut 23 = .ok (.iload_n 2, 1) := by decide +kernel
theorem dX5_cut_24 : decode cX5_cut 24 = .ok (.baload, 1) := by decide +kernel
theorem dX5_cut_25 : decode cX5_cut 25 = .ok (.ifCond .ne 7, 3) := by decide +kernel
theorem dX5_cut_28 : decode cX5_cut 28 = .ok (.iconst 2, 1) := by decide +kernel
theorem dX5_cut_29 : decode cX5_cut 29 = .ok (.goto 33, 3) := by decide +kernel
theorem dX5_cut_32 : decode cX5_cut 32 = .ok (.aload_n 0, 1) := by decide +kernel
theorem dX5_cut_33 : decode cX5_cut 33 = .ok (.iload_n 2, 1) := by decide +kernel
theorem dX5_cut_34 : decode cX5_cut 34 = .ok (.iload 4, 2) := by decide +kernel
theorem dX5_cut_36 : decode cX5_cut 36 = .ok (.invokevirtual 120, 3) := by decide +kernel
theorem dX5_cut_39 : decode cX5_cut 39 = .ok (.ifCond .ne 7, 3) := by decide +kernel
theorem dX5_cut_42 : decode cX5_cut 42 = .ok (.iconst 3, 1) := by decide +kernel
theorem dX5_cut_43 : decode cX5_cut 43 = .ok (.goto 19, 3) := by decide +kernel
theorem dX5_cut_46 : decode cX5_cut 46 = .ok (.aload_n 0, 1) := by decide +kernel
theorem dX5_cut_47 : decode cX5_cut 47 = .ok (.getfield 38, 3) := by decide +kernel
theorem dX5_cut_50 : decode cX5_cut 50 = .ok (.iload_n 2, 1) := by decide +kernel
theorem dX5_cut_51 : decode cX5_cut 51 = .ok (.iaload, 1) := by decide +kernel
theorem dX5_cut_52 : decode cX5_cut 52 = .ok (.bipush 12, 2) := by decide +kernel
theorem dX5_cut_54 : decode cX5_cut 54 = .ok (.if_icmp .ne 7, 3) := by decide +kernel
theorem dX5_cut_57 : decode cX5_cut 57 = .ok (.iconst 4, 1) := by decide +kernel
theorem dX5_cut_58 : decode cX5_cut 58 = .ok (.goto 4, 3) := by decide +kernel
theorem dX5_cut_61 : decode cX5_cut 61 = .ok (.iconst 0, 1) := by decide +kernel
theorem dX5_cut_62 : decode cX5_cut 62 = .ok (.invokevirtual 95, 3) := by decide +kernel
theorem dX5_cut_65 : decode cX5_cut 65 = .ok (.ifCond .eq 5, 3) := by decide +kernel
theorem dX5_cut_68 : decode cX5_cut 68 = .ok (.iconst 0, 1) := by decide +kernel
theorem dX5_cut_69 : decode cX5_cut 69 = .ok (.ireturn, 1) := by decide +kernel
theorem dX5_cut_70 : decode cX5_cut 70 = .ok (.aload_n 0, 1) := by decide +kernel
theorem dX5_cut_71 : decode cX5_cut 71 = .ok (.getfield 19, 3) := by decide +kernel
theorem dX5_cut_74 : decode cX5_cut 74 = .ok (.iload_n 1, 1) := by decide +kernel
theorem dX5_cut_75 : decode cX5_cut 75 = .ok (.iconst 1, 1) := by decide +kernel
theorem dX5_cut_76 : decode cX5_cut 76 = .ok (.bastore, 1) := by decide +kernel
theorem dX5_cut_77 : decode cX5_cut 77 = .ok (.aload_n 0, 1) := by decide +kernel
theorem dX5_cut_78 : decode cX5_cut 78 = .ok (.getfield 23, 3) := by decide +kernel
theorem dX5_cut_81 : decode cX5_cut 81 = .ok (.iload_n 1, 1) := by decide +kernel
theorem dX5_cut_82 : decode cX5_cut 82 = .ok (.aload_n 0, 1) := by decide +kernel
theorem dX5_cut_83 : decode cX5_cut 83 = .ok (.getfield 23, 3) := by decide +kernel
theorem dX5_cut_86 : decode cX5_cut 86 = .ok (.iload_n 2, 1) := by decide +kernel
theorem dX5_cut_87 : decode cX5_cut 87 = .ok (.iaload, 1) := by decide +kernel
theorem dX5_cut_88 : decode cX5_cut 88 = .ok (.iastore, 1) := by decide +kernel
theorem dX5_cut_89 : decode cX5_cut 89 = .ok (.aload_n 0, 1) := by decide +kernel
theorem dX5_cut_90 : decode cX5_cut 90 = .ok (.getfield 26, 3) := by decide +kernel
theorem dX5_cut_93 : decode cX5_cut 93 = .ok (.iload_n 1, 1) := by decide +kernel
theorem dX5_cut_94 : decode cX5_cut 94 = .ok (.iload_n 3, 1) := by decide +kernel
theorem dX5_cut_95 : decode cX5_cut 95 = .ok (.ifCond .eq 12, 3) := by decide +kernel
theorem dX5_cut_98 : decode cX5_cut 98 = .ok (.aload_n 0, 1) := by decide +kernel
theorem dX5_cut_99 : decode cX5_cut 99 = .ok (.getfield 26, 3) := by decide +kernel
theorem dX5_cut_102 : decode cX5_cut 102 = .ok (.iload_n 2, 1) := by decide +kernel
theorem dX5_cut_103 : decode cX5_cut 103 = .ok (.iaload, 1) := by decide +kernel
theorem dX5_cut_104 : decode cX5_cut 104 = .ok (.goto 5, 3) := by decide +kernel
theorem dX5_cut_107 : decode cX5_cut 107 = .ok (.iload 4, 2) := by decide +kernel
theorem dX5_cut_109 : decode cX5_cut 109 = .ok (.iastore, 1) := by decide +kernel
theorem dX5_cut_110 : decode cX5_cut 110 = .ok (.aload_n 0, 1) := by decide +kernel
theorem dX5_cut_111 : decode cX5_cut 111 = .ok (.getfield 32, 3) := by decide +kernel
theorem dX5_cut_114 : decode cX5_cut 114 = .ok (.iload_n 1, 1) := by decide +kernel
theorem dX5_cut_115 : decode cX5_cut 115 = .ok (.iload_n 3, 1) := by decide +kernel
theorem dX5_cut_116 : decode cX5_cut 116 = .ok (.ifCond .eq 12, 3) := by decide +kernel
theorem dX5_cut_119 : decode cX5_cut 119 = .ok (.aload_n 0, 1) := by decide +kernel
theorem dX5_cut_120 : decode cX5_cut 120 = .ok (.getfield 32, 3) := by decide +kernel
theorem dX5_cut_123 : decode cX5_cut 123 = .ok (.iload_n 2, 1) := by decide +kernel
theorem dX5_cut_124 : decode cX5_cut 124 = .ok (.baload, 1) := by decide +kernel
theorem dX5_cut_125 : decode cX5_cut 125 = .ok (.goto 5, 3) := by decide +kernel
theorem dX5_cut_128 : decode cX5_cut 128 = .ok (.iload 5, 2) := by decide +kernel
theorem dX5_cut_130 : decode cX5_cut 130 = .ok (.bastore, 1) := by decide +kernel
theorem dX5_cut_131 : decode cX5_cut 131 = .ok (.aload_n 0, 1) := by decide +kernel
theorem dX5_cut_132 : decode cX5_cut 132 = .ok (.getfield 29, 3) := by decide +kernel
theorem dX5_cut_135 : decode cX5_cut 135 = .ok (.iload_n 1, 1) := by decide +kernel
theorem dX5_cut_136 : decode cX5_cut 136 = .ok (.iload_n 3, 1) := by decide +kernel
theorem dX5_cut_137 : decode cX5_cut 137 = .ok (.ifCond .eq 8, 3) := by decide +kernel
theorem dX5_cut_140 : decode cX5_cut 140 = .ok (.iload 4, 2) := by decide +kernel
theorem dX5_cut_142 : decode cX5_cut 142 = .ok (.goto 9, 3) := by decide +kernel
theorem dX5_cut_145 : decode cX5_cut 145 = .ok (.aload_n 0, 1) := by decide +kernel
theorem dX5_cut_146 : decode cX5_cut 146 = .ok (.getfield 29, 3) := by decide +kernel
theorem dX5_cut_149 : decode cX5_cut 149 = .ok (.iload_n 2, 1) := by decide +kernel
theorem dX5_cut_150 : decode cX5_cut 150 = .ok (.iaload, 1) := by decide +kernel
theorem dX5_cut_151 : decode cX5_cut 151 = .ok (.iastore, 1) := by decide +kernel
theorem dX5_cut_152 : decode cX5_cut 152 = .ok (.aload_n 0, 1) := by decide +kernel
theorem dX5_cut_153 : decode cX5_cut 153 = .ok (.getfield 35, 3) := by decide +kernel
theorem dX5_cut_156 : decode cX5_cut 156 = .ok (.iload_n 1, 1) := by decide +kernel
theorem dX5_cut_157 : decode cX5_cut 157 = .ok (.iload_n 3, 1) := by decide +kernel
theorem dX5_cut_158 : decode cX5_cut 158 = .ok (.ifCond .eq 8, 3) := by decide +kernel
theorem dX5_cut_161 : decode cX5_cut 161 = .ok (.iload 5, 2) := by decide +kernel
theorem dX5_cut_163 : decode cX5_cut 163 = .ok (.goto 9, 3) := by decide +kernel
theorem dX5_cut_166 : decode cX5_cut 166 = .ok (.aload_n 0, 1) := by decide +kernel
theorem dX5_cut_167 : decode cX5_cut 167 = .ok (.getfield 35, 3) := by decide +kernel
theorem dX5_cut_170 : decode cX5_cut 170 = .ok (.iload_n 2, 1) := by decide +kernel
theorem dX5_cut_171 : decode cX5_cut 171 = .ok (.baload, 1) := by decide +kernel
theorem dX5_cut_172 : decode cX5_cut 172 = .ok (.bastore, 1) := by decide +kernel
theorem dX5_cut_173 : decode cX5_cut 173 = .ok (.aload_n 0, 1) := by decide +kernel
theorem dX5_cut_174 : decode cX5_cut 174 = .ok (.getfield 38, 3) := by decide +kernel
theorem dX5_cut_177 : decode cX5_cut 177 = .ok (.iload_n 1, 1) := by decide +kernel
theorem dX5_cut_178 : decode cX5_cut 178 = .ok (.aload_n 0, 1) := by decide +kernel
theorem dX5_cut_179 : decode cX5_cut 179 = .ok (.getfield 38, 3) := by decide +kernel
theorem dX5_cut_182 : decode cX5_cut 182 = .ok (.iload_n 2, 1) := by decide +kernel
theorem dX5_cut_183 : decode cX5_cut 183 = .ok (.iaload, 1) := by decide +kernel
theorem dX5_cut_184 : decode cX5_cut 184 = .ok (.iconst 1, 1) := by decide +kernel
theorem dX5_cut_185 : decode cX5_cut 185 = .ok (.iadd, 1) := by decide +kernel
theorem dX5_cut_186 : decode cX5_cut 186 = .ok (.iastore, 1) := by decide +kernel
theorem dX5_cut_187 : decode cX5_cut 187 = .ok (.aload_n 0, 1) := by decide +kernel
theorem dX5_cut_188 : decode cX5_cut 188 = .ok (.iload_n 1, 1) := by decide +kernel
theorem dX5_cut_189 : decode cX5_cut 189 = .ok (.invokevirtual 129, 3) := by decide +kernel
theorem dX5_cut_192 : decode cX5_cut 192 = .ok (.ireturn, 1) := by decide +kernel
theorem dX5_viewPut_0 : decode cX5_viewPut 0 = .ok (.aload_n 0, 1) := by decide +kernel
theorem dX5_viewPut_1 : decode cX5_viewPut 1 = .ok (.iload_n 1, 1) := by decide +kernel
theorem dX5_viewPut_2 : decode cX5_viewPut 2 = .ok (.invokestatic 126, 3) := by decide +kernel
theorem dX5_viewPut_5 : decode cX5_viewPut 5 = .ok (.ifCond .ne 7, 3) := by decide +kernel
theorem dX5_viewPut_8 : decode cX5_viewPut 8 = .ok (.iconst 1, 1) := by decide +kernel
theorem dX5_viewPut_9 : decode cX5_viewPut 9 = .ok (.goto 64, 3) := by decide +kernel
theorem dX5_viewPut_12 : decode cX5_viewPut 12 = .ok (.aload_n 0, 1) := by decide +kernel
theorem dX5_viewPut_13 : decode cX5_viewPut 13 = .ok (.getfield 19, 3) := by decide +kernel
theorem dX5_viewPut_16 : decode cX5_viewPut 16 = .ok (.iload_n 1, 1) := by decide +kernel
theorem dX5_viewPut_17 : decode cX5_viewPut 17 = .ok (.baload, 1) := by decide +kernel
theorem dX5_viewPut_18 : decode cX5_viewPut 18 = .ok (.ifCond .ne 7, 3) := by decide +kernel
theorem dX5_viewPut_21 : decode cX5_viewPut 21 = .ok (.iconst 2, 1) := by decide +kernel
theorem dX5_viewPut_22 : decode cX5_viewPut 22 = .ok (.goto 51, 3) := by decide +kernel
theorem dX5_viewPut_25 : decode cX5_viewPut 25 = .ok (.aload_n 0, 1) := by decide +kernel
theorem dX5_viewPut_26 : decode cX5_viewPut 26 = .ok (.iload_n 1, 1) := by decide +kernel
theorem dX5_viewPut_27 : decode cX5_viewPut 27 = .ok (.iload_n 2, 1) := by decide +kernel
theorem dX5_viewPut_28 : decode cX5_viewPut 28 = .ok (.invokevirtual 120, 3) := by decide +kernel
theorem dX5_viewPut_31 : decode cX5_viewPut 31 = .ok (.ifCond .ne 7, 3) := by decide +kernel
theorem dX5_viewPut_34 : decode cX5_viewPut 34 = .ok (.iconst 3, 1) := by decide +kernel
theorem dX5_viewPut_35 : decode cX5_viewPut 35 = .ok (.goto 38, 3) := by decide +kernel
theorem dX5_viewPut_38 : decode cX5_viewPut 38 = .ok (.aload_n 0, 1) := by decide +kernel
theorem dX5_viewPut_39 : decode cX5_viewPut 39 = .ok (.getfield 16, 3) := by decide +kernel
theorem dX5_viewPut_42 : decode cX5_viewPut 42 = .ok (.aload_n 0, 1) := by decide +kernel
theorem dX5_viewPut_43 : decode cX5_viewPut 43 = .ok (.getfield 23, 3) := by decide +kernel
theorem dX5_viewPut_46 : decode cX5_viewPut 46 = .ok (.iload_n 1, 1) := by decide +kernel
theorem dX5_viewPut_47 : decode cX5_viewPut 47 = .ok (.iaload, 1) := by decide +kernel
theorem dX5_viewPut_48 : decode cX5_viewPut 48 = .ok (.iaload, 1) := by decide +kernel
theorem dX5_viewPut_49 : decode cX5_viewPut 49 = .ok (.bipush 60, 2) := by decide +kernel
theorem dX5_viewPut_51 : decode cX5_viewPut 51 = .ok (.if_icmp .ne 21, 3) := by decide +kernel
theorem dX5_viewPut_54 : decode cX5_viewPut 54 = .ok (.aload_n 0, 1) := by decide +kernel
theorem dX5_viewPut_55 : decode cX5_viewPut 55 = .ok (.aload_n 0, 1) := by decide +kernel
theorem dX5_viewPut_56 : decode cX5_viewPut 56 = .ok (.getfield 23, 3) := by decide +kernel
theorem dX5_viewPut_59 : decode cX5_viewPut 59 = .ok (.iload_n 1, 1) := by decide +kernel
theorem dX5_viewPut_60 : decode cX5_viewPut 60 = .ok (.iaload, 1) := by decide +kernel
theorem dX5_viewPut_61 : decode cX5_viewPut 61 = .ok (.iload_n 2, 1) := by decide +kernel
theorem dX5_viewPut_62 : decode cX5_viewPut 62 = .ok (.invokevirtual 91, 3) := by decide +kernel
theorem dX5_viewPut_65 : decode cX5_viewPut 65 = .ok (.ifCond .ne 7, 3) := by decide +kernel
theorem dX5_viewPut_68 : decode cX5_viewPut 68 = .ok (.iconst 4, 1) := by decide +kernel
theorem dX5_viewPut_69 : decode cX5_viewPut 69 = .ok (.goto 4, 3) := by decide +kernel
theorem dX5_viewPut_72 : decode cX5_viewPut 72 = .ok (.iconst 0, 1) := by decide +kernel
theorem dX5_viewPut_73 : decode cX5_viewPut 73 = .ok (.invokevirtual 95, 3) := by decide +kernel
theorem dX5_viewPut_76 : decode cX5_viewPut 76 = .ok (.ifCond .eq 5, 3) := by decide +kernel
theorem dX5_viewPut_79 : decode cX5_viewPut 79 = .ok (.iconst 0, 1) := by decide +kernel
theorem dX5_viewPut_80 : decode cX5_viewPut 80 = .ok (.ireturn, 1) := by decide +kernel
theorem dX5_viewPut_81 : decode cX5_viewPut 81 = .ok (.aload_n 0, 1) := by decide +kernel
theorem dX5_viewPut_82 : decode cX5_viewPut 82 = .ok (.aload_n 0, 1) := by decide +kernel
theorem dX5_viewPut_83 : decode cX5_viewPut 83 = .ok (.getfield 23, 3) := by decide +kernel
theorem dX5_viewPut_86 : decode cX5_viewPut 86 = .ok (.iload_n 1, 1) := by decide +kernel
theorem dX5_viewPut_87 : decode cX5_viewPut 87 = .ok (.iaload, 1) := by decide +kernel
theorem dX5_viewPut_88 : decode cX5_viewPut 88 = .ok (.iload_n 2, 1) := by decide +kernel
theorem dX5_viewPut_89 : decode cX5_viewPut 89 = .ok (.iload_n 3, 1) := by decide +kernel
theorem dX5_viewPut_90 : decode cX5_viewPut 90 = .ok (.invokevirtual 98, 3) := by decide +kernel
theorem dX5_viewPut_93 : decode cX5_viewPut 93 = .ok (.aload_n 0, 1) := by decide +kernel
theorem dX5_viewPut_94 : decode cX5_viewPut 94 = .ok (.iload_n 1, 1) := by decide +kernel
theorem dX5_viewPut_95 : decode cX5_viewPut 95 = .ok (.invokevirtual 129, 3) := by decide +kernel
theorem dX5_viewPut_98 : decode cX5_viewPut 98 = .ok (.ireturn, 1) := by decide +kernel
theorem dX5_viewRemove_0 : decode cX5_viewRemove 0 = .ok (.aload_n 0, 1) := by decide +kernel
theorem dX5_viewRemove_1 : decode cX5_viewRemove 1 = .ok (.iload_n 1, 1) := by decide +kernel
theorem dX5_viewRemove_2 : decode cX5_viewRemove 2 = .ok (.invokestatic 126, 3) := by decide +kernel
theorem dX5_viewRemove_5 : decode cX5_viewRemove 5 = .ok (.ifCond .ne 7, 3) := by decide +kernel
theorem dX5_viewRemove_8 : decode cX5_viewRemove 8 = .ok (.iconst 1, 1) := by decide +kernel
theorem dX5_viewRemove_9 : decode cX5_viewRemove 9 = .ok (.goto 17, 3) := by decide +kernel
theorem dX5_viewRemove_12 : decode cX5_viewRemove 12 = .ok (.aload_n 0, 1) := by decide +kernel
theorem dX5_viewRemove_13 : decode cX5_viewRemove 13 = .ok (.getfield 19, 3) := by decide +kernel
theorem dX5_viewRemove_16 : decode cX5_viewRemove 16 = .ok (.iload_n 1, 1) := by decide +kernel
theorem dX5_viewRemove_17 : decode cX5_viewRemove 17 = .ok (.baload, 1) := by decide +kernel
theorem dX5_viewRemove_18 : decode cX5_viewRemove 18 = .ok (.ifCond .ne 7, 3) := by decide +kernel
theorem dX5_viewRemove_21 : decode cX5_viewRemove 21 = .ok (.iconst 2, 1) := by decide +kernel
theorem dX5_viewRemove_22 : decode cX5_viewRemove 22 = .ok (.goto 4, 3) := by decide +kernel
theorem dX5_viewRemove_25 : decode cX5_viewRemove 25 = .ok (.iconst 0, 1) := by decide +kernel
theorem dX5_viewRemove_26 : decode cX5_viewRemove 26 = .ok (.invokevirtual 95, 3) := by decide +kernel
theorem dX5_viewRemove_29 : decode cX5_viewRemove 29 = .ok (.ifCond .eq 5, 3) := by decide +kernel
theorem dX5_viewRemove_32 : decode cX5_viewRemove 32 = .ok (.iconst 0, 1) := by decide +kernel
theorem dX5_viewRemove_33 : decode cX5_viewRemove 33 = .ok (.ireturn, 1) := by decide +kernel
theorem dX5_viewRemove_34 : decode cX5_viewRemove 34 = .ok (.aload_n 0, 1) := by decide +kernel
theorem dX5_viewRemove_35 : decode cX5_viewRemove 35 = .ok (.iload_n 1, 1) := by decide +kernel
theorem dX5_viewRemove_36 : decode cX5_viewRemove 36 = .ok (.iload_n 2, 1) := by decide +kernel
theorem dX5_viewRemove_37 : decode cX5_viewRemove 37 = .ok (.invokevirtual 120, 3) := by decide +kernel
theorem dX5_viewRemove_40 : decode cX5_viewRemove 40 = .ok (.ifCond .eq 21, 3) := by decide +kernel
theorem dX5_viewRemove_43 : decode cX5_viewRemove 43 = .ok (.aload_n 0, 1) := by decide +kernel
theorem dX5_viewRemove_44 : decode cX5_viewRemove 44 = .ok (.aload_n 0, 1) := by decide +kernel
theorem dX5_viewRemove_45 : decode cX5_viewRemove 45 = .ok (.getfield 23, 3) := by decide +kernel
theorem dX5_viewRemove_48 : decode cX5_viewRemove 48 = .ok (.iload_n 1, 1) := by decide +kernel
theorem dX5_viewRemove_49 : decode cX5_viewRemove 49 = .ok (.iaload, 1) := by decide +kernel
theorem dX5_viewRemove_50 : decode cX5_viewRemove 50 = .ok (.iload_n 2, 1) := by decide +kernel
theorem dX5_viewRemove_51 : decode cX5_viewRemove 51 = .ok (.invokevirtual 91, 3) := by decide +kernel
theorem dX5_viewRemove_54 : decode cX5_viewRemove 54 = .ok (.ifCond .eq 7, 3) := by decide +kernel
theorem dX5_viewRemove_57 : decode cX5_viewRemove 57 = .ok (.iconst 1, 1) := by decide +kernel
theorem dX5_viewRemove_58 : decode cX5_viewRemove 58 = .ok (.goto 4, 3) := by decide +kernel
theorem dX5_viewRemove_61 : decode cX5_viewRemove 61 = .ok (.iconst 0, 1) := by decide +kernel
theorem dX5_viewRemove_62 : decode cX5_viewRemove 62 = .ok (.istore_n 3, 1) := by decide +kernel
theorem dX5_viewRemove_63 : decode cX5_viewRemove 63 = .ok (.iload_n 3, 1) := by decide +kernel
theorem dX5_viewRemove_64 : decode cX5_viewRemove 64 = .ok (.ifCond .eq 24, 3) := by decide +kernel
theorem dX5_viewRemove_67 : decode cX5_viewRemove 67 = .ok (.aload_n 0, 1) := by decide +kernel
theorem dX5_viewRemove_68 : decode cX5_viewRemove 68 = .ok (.aload_n 0, 1) := by decide +kernel
theorem dX5_viewRemove_69 : decode cX5_viewRemove 69 = .ok (.getfield 23, 3) := by decide +kernel
theorem dX5_viewRemove_72 : decode cX5_viewRemove 72 = .ok (.iload_n 1, 1) := by decide +kernel
theorem dX5_viewRemove_73 : decode cX5_viewRemove 73 = .ok (.iaload, 1) := by decide +kernel
theorem dX5_viewRemove_74 : decode cX5_viewRemove 74 = .ok (.aload_n 0, 1) := by decide +kernel
theorem dX5_viewRemove_75 : decode cX5_viewRemove 75 = .ok (.aload_n 0, 1) := by decide +kernel
theorem dX5_viewRemove_76 : decode cX5_viewRemove 76 = .ok (.getfield 23, 3) := by decide +kernel
theorem dX5_viewRemove_79 : decode cX5_viewRemove 79 = .ok (.iload_n 1, 1) := by decide +kernel
theorem dX5_viewRemove_80 : decode cX5_viewRemove 80 = .ok (.iaload, 1) := by decide +kernel
theorem dX5_viewRemove_81 : decode cX5_viewRemove 81 = .ok (.iload_n 2, 1) := by decide +kernel
theorem dX5_viewRemove_82 : decode cX5_viewRemove 82 = .ok (.invokevirtual 68, 3) := by decide +kernel
theorem dX5_viewRemove_85 : decode cX5_viewRemove 85 = .ok (.invokevirtual 79, 3) := by decide +kernel
theorem dX5_viewRemove_88 : decode cX5_viewRemove 88 = .ok (.iload_n 3, 1) := by decide +kernel
theorem dX5_viewRemove_89 : decode cX5_viewRemove 89 = .ok (.ireturn, 1) := by decide +kernel
theorem dX5_viewNearAt_0 : decode cX5_viewNearAt 0 = .ok (.aload_n 0, 1) := by decide +kernel
theorem dX5_viewNearAt_1 : decode cX5_viewNearAt 1 = .ok (.aload_n 0, 1) := by decide +kernel
theorem dX5_viewNearAt_2 : decode cX5_viewNearAt 2 = .ok (.getfield 23, 3) := by decide +kernel
theorem dX5_viewNearAt_5 : decode cX5_viewNearAt 5 = .ok (.iload_n 1, 1) := by decide +kernel
theorem dX5_viewNearAt_6 : decode cX5_viewNearAt 6 = .ok (.iaload, 1) := by decide +kernel
theorem dX5_viewNearAt_7 : decode cX5_viewNearAt 7 = .ok (.aload_n 0, 1) := by decide +kernel
theorem dX5_viewNearAt_8 : decode cX5_viewNearAt 8 = .ok (.iload_n 1, 1) := by decide +kernel
theorem dX5_viewNearAt_9 : decode cX5_viewNearAt 9 = .ok (.invokevirtual 116, 3) := by decide +kernel
theorem dX5_viewNearAt_12 : decode cX5_viewNearAt 12 = .ok (.aload_n 0, 1) := by decide +kernel
theorem dX5_viewNearAt_13 : decode cX5_viewNearAt 13 = .ok (.iload_n 1, 1) := by decide +kernel
theorem dX5_viewNearAt_14 : decode cX5_viewNearAt 14 = .ok (.invokevirtual 123, 3) := by decide +kernel
theorem dX5_viewNearAt_17 : decode cX5_viewNearAt 17 = .ok (.iload_n 2, 1) := by decide +kernel
theorem dX5_viewNearAt_18 : decode cX5_viewNearAt 18 = .ok (.iload_n 3, 1) := by decide +kernel
theorem dX5_viewNearAt_19 : decode cX5_viewNearAt 19 = .ok (.invokevirtual 106, 3) := by decide +kernel
theorem dX5_viewNearAt_22 : decode cX5_viewNearAt 22 = .ok (.ireturn, 1) := by decide +kernel
theorem dX5_viewNear_0 : decode cX5_viewNear 0 = .ok (.aload_n 0, 1) := by decide +kernel
theorem dX5_viewNear_1 : decode cX5_viewNear 1 = .ok (.iload_n 1, 1) := by decide +kernel
theorem dX5_viewNear_2 : decode cX5_viewNear 2 = .ok (.invokestatic 126, 3) := by decide +kernel
theorem dX5_viewNear_5 : decode cX5_viewNear 5 = .ok (.ifCond .ne 7, 3) := by decide +kernel
theorem dX5_viewNear_8 : decode cX5_viewNear 8 = .ok (.iconst 1, 1) := by decide +kernel
theorem dX5_viewNear_9 : decode cX5_viewNear 9 = .ok (.goto 38, 3) := by decide +kernel
theorem dX5_viewNear_12 : decode cX5_viewNear 12 = .ok (.iload_n 3, 1) := by decide +kernel
theorem dX5_viewNear_13 : decode cX5_viewNear 13 = .ok (.invokestatic 102, 3) := by decide +kernel
theorem dX5_viewNear_16 : decode cX5_viewNear 16 = .ok (.ifCond .ne 7, 3) := by decide +kernel
theorem dX5_viewNear_19 : decode cX5_viewNear 19 = .ok (.iconst 2, 1) := by decide +kernel
theorem dX5_viewNear_20 : decode cX5_viewNear 20 = .ok (.goto 27, 3) := by decide +kernel
theorem dX5_viewNear_23 : decode cX5_viewNear 23 = .ok (.aload_n 0, 1) := by decide +kernel
theorem dX5_viewNear_24 : decode cX5_viewNear 24 = .ok (.getfield 19, 3) := by decide +kernel
theorem dX5_viewNear_27 : decode cX5_viewNear 27 = .ok (.iload_n 1, 1) := by decide +kernel
theorem dX5_viewNear_28 : decode cX5_viewNear 28 = .ok (.baload, 1) := by decide +kernel
theorem dX5_viewNear_29 : decode cX5_viewNear 29 = .ok (.ifCond .eq 13, 3) := by decide +kernel
theorem dX5_viewNear_32 : decode cX5_viewNear 32 = .ok (.aload_n 0, 1) := by decide +kernel
theorem dX5_viewNear_33 : decode cX5_viewNear 33 = .ok (.iload_n 1, 1) := by decide +kernel
theorem dX5_viewNear_34 : decode cX5_viewNear 34 = .ok (.iload_n 2, 1) := by decide +kernel
theorem dX5_viewNear_35 : decode cX5_viewNear 35 = .ok (.iload_n 3, 1) := by decide +kernel
theorem dX5_viewNear_36 : decode cX5_viewNear 36 = .ok (.invokevirtual 132, 3) := by decide +kernel
theorem dX5_viewNear_39 : decode cX5_viewNear 39 = .ok (.ifCond .ge 7, 3) := by decide +kernel
theorem dX5_viewNear_42 : decode cX5_viewNear 42 = .ok (.iconst 3, 1) := by decide +kernel
theorem dX5_viewNear_43 : decode cX5_viewNear 43 = .ok (.goto 4, 3) := by decide +kernel
theorem dX5_viewNear_46 : decode cX5_viewNear 46 = .ok (.iconst 0, 1) := by decide +kernel
theorem dX5_viewNear_47 : decode cX5_viewNear 47 = .ok (.invokevirtual 95, 3) := by decide +kernel
theorem dX5_viewNear_50 : decode cX5_viewNear 50 = .ok (.ifCond .eq 5, 3) := by decide +kernel
theorem dX5_viewNear_53 : decode cX5_viewNear 53 = .ok (.iconst 0, 1) := by decide +kernel
theorem dX5_viewNear_54 : decode cX5_viewNear 54 = .ok (.ireturn, 1) := by decide +kernel
theorem dX5_viewNear_55 : decode cX5_viewNear 55 = .ok (.aload_n 0, 1) := by decide +kernel
theorem dX5_viewNear_56 : decode cX5_viewNear 56 = .ok (.getfield 7, 3) := by decide +kernel
theorem dX5_viewNear_59 : decode cX5_viewNear 59 = .ok (.bipush 60, 2) := by decide +kernel
theorem dX5_viewNear_61 : decode cX5_viewNear 61 = .ok (.aload_n 0, 1) := by decide +kernel
theorem dX5_viewNear_62 : decode cX5_viewNear 62 = .ok (.getfield 23, 3) := by decide +kernel
theorem dX5_viewNear_65 : decode cX5_viewNear 65 = .ok (.iload_n 1, 1) := by decide +kernel
theorem dX5_viewNear_66 : decode cX5_viewNear 66 = .ok (.iaload, 1) := by decide +kernel
theorem dX5_viewNear_67 : decode cX5_viewNear 67 = .ok (.imul, 1) := by decide +kernel
theorem dX5_viewNear_68 : decode cX5_viewNear 68 = .ok (.aload_n 0, 1) := by decide +kernel
theorem dX5_viewNear_69 : decode cX5_viewNear 69 = .ok (.iload_n 1, 1) := by decide +kernel
theorem dX5_viewNear_70 : decode cX5_viewNear 70 = .ok (.iload_n 2, 1) := by decide +kernel
theorem dX5_viewNear_71 : decode cX5_viewNear 71 = .ok (.iload_n 3, 1) := by decide +kernel
theorem dX5_viewNear_72 : decode cX5_viewNear 72 = .ok (.invokevirtual 132, 3) := by decide +kernel
theorem dX5_viewNear_75 : decode cX5_viewNear 75 = .ok (.iadd, 1) := by decide +kernel
theorem dX5_viewNear_76 : decode cX5_viewNear 76 = .ok (.iaload, 1) := by decide +kernel
theorem dX5_viewNear_77 : decode cX5_viewNear 77 = .ok (.ireturn, 1) := by decide +kernel
theorem dX5_viewEnd_0 : decode cX5_viewEnd 0 = .ok (.aload_n 0, 1) := by decide +kernel
theorem dX5_viewEnd_1 : decode cX5_viewEnd 1 = .ok (.iload_n 1, 1) := by decide +kernel
theorem dX5_viewEnd_2 : decode cX5_viewEnd 2 = .ok (.invokestatic 126, 3) := by decide +kernel
theorem dX5_viewEnd_5 : decode cX5_viewEnd 5 = .ok (.ifCond .ne 7, 3) := by decide +kernel
theorem dX5_viewEnd_8 : decode cX5_viewEnd 8 = .ok (.iconst 1, 1) := by decide +kernel
theorem dX5_viewEnd_9 : decode cX5_viewEnd 9 = .ok (.goto 25, 3) := by decide +kernel
theorem dX5_viewEnd_12 : decode cX5_viewEnd 12 = .ok (.aload_n 0, 1) := by decide +kernel
theorem dX5_viewEnd_13 : decode cX5_viewEnd 13 = .ok (.getfield 19, 3) := by decide +kernel
theorem dX5_viewEnd_16 : decode cX5_viewEnd 16 = .ok (.iload_n 1, 1) := by decide +kernel
theorem dX5_viewEnd_17 : decode cX5_viewEnd 17 = .ok (.baload, 1) := by decide +kernel
theorem dX5_viewEnd_18 : decode cX5_viewEnd 18 = .ok (.ifCond .eq 11, 3) := by decide +kernel
theorem dX5_viewEnd_21 : decode cX5_viewEnd 21 = .ok (.aload_n 0, 1) := by decide +kernel
theorem dX5_viewEnd_22 : decode cX5_viewEnd 22 = .ok (.iload_n 1, 1) := by decide +kernel
theorem dX5_viewEnd_23 : decode cX5_viewEnd 23 = .ok (.invokevirtual 129, 3) := by decide +kernel
theorem dX5_viewEnd_26 : decode cX5_viewEnd 26 = .ok (.ifCond .ne 7, 3) := by decide +kernel
theorem dX5_viewEnd_29 : decode cX5_viewEnd 29 = .ok (.iconst 2, 1) := by decide +kernel
theorem dX5_viewEnd_30 : decode cX5_viewEnd 30 = .ok (.goto 4, 3) := by decide +kernel
theorem dX5_viewEnd_33 : decode cX5_viewEnd 33 = .ok (.iconst 0, 1) := by decide +kernel
theorem dX5_viewEnd_34 : decode cX5_viewEnd 34 = .ok (.invokevirtual 95, 3) := by decide +kernel
theorem dX5_viewEnd_37 : decode cX5_viewEnd 37 = .ok (.ifCond .eq 5, 3) := by decide +kernel
theorem dX5_viewEnd_40 : decode cX5_viewEnd 40 = .ok (.iconst 0, 1) := by decide +kernel
theorem dX5_viewEnd_41 : decode cX5_viewEnd 41 = .ok (.ireturn, 1) := by decide +kernel
theorem dX5_viewEnd_42 : decode cX5_viewEnd 42 = .ok (.aload_n 0, 1) := by decide +kernel
theorem dX5_viewEnd_43 : decode cX5_viewEnd 43 = .ok (.getfield 7, 3) := by decide +kernel
theorem dX5_viewEnd_46 : decode cX5_viewEnd 46 = .ok (.bipush 60, 2) := by decide +kernel
theorem dX5_viewEnd_48 : decode cX5_viewEnd 48 = .ok (.aload_n 0, 1) := by decide +kernel
theorem dX5_viewEnd_49 : decode cX5_viewEnd 49 = .ok (.getfield 23, 3) := by decide +kernel
theorem dX5_viewEnd_52 : decode cX5_viewEnd 52 = .ok (.iload_n 1, 1) := by decide +kernel
theorem dX5_viewEnd_53 : decode cX5_viewEnd 53 = .ok (.iaload, 1) := by decide +kernel
theorem dX5_viewEnd_54 : decode cX5_viewEnd 54 = .ok (.imul, 1) := by decide +kernel
theorem dX5_viewEnd_55 : decode cX5_viewEnd 55 = .ok (.iload_n 2, 1) := by decide +kernel
theorem dX5_viewEnd_56 : decode cX5_viewEnd 56 = .ok (.ifCond .eq 13, 3) := by decide +kernel
theorem dX5_viewEnd_59 : decode cX5_viewEnd 59 = .ok (.aload_n 0, 1) := by decide +kernel
