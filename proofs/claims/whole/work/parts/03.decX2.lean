theorem dX2_init_0 : decode cX2_init 0 = .ok (.aload_n 0, 1) := by decide +kernel
theorem dX2_init_1 : decode cX2_init 1 = .ok (.invokespecial 3, 3) := by decide +kernel
theorem dX2_init_4 : decode cX2_init 4 = .ok (.aload_n 0, 1) := by decide +kernel
theorem dX2_init_5 : decode cX2_init 5 = .ok (.bipush 120, 2) := by decide +kernel
theorem dX2_init_7 : decode cX2_init 7 = .ok (.newarray .int, 2) := by decide +kernel
theorem dX2_init_9 : decode cX2_init 9 = .ok (.putfield 9, 3) := by decide +kernel
theorem dX2_init_12 : decode cX2_init 12 = .ok (.aload_n 0, 1) := by decide +kernel
theorem dX2_init_13 : decode cX2_init 13 = .ok (.bipush 120, 2) := by decide +kernel
theorem dX2_init_15 : decode cX2_init 15 = .ok (.newarray .int, 2) := by decide +kernel
theorem dX2_init_17 : decode cX2_init 17 = .ok (.putfield 15, 3) := by decide +kernel
theorem dX2_init_20 : decode cX2_init 20 = .ok (.return_, 1) := by decide +kernel
theorem dX2_countBelow_0 : decode cX2_countBelow 0 = .ok (.iconst 0, 1) := by decide +kernel
theorem dX2_countBelow_1 : decode cX2_countBelow 1 = .ok (.istore_n 2, 1) := by decide +kernel
theorem dX2_countBelow_2 : decode cX2_countBelow 2 = .ok (.bipush 64, 2) := by decide +kernel
theorem dX2_countBelow_4 : decode cX2_countBelow 4 = .ok (.istore_n 3, 1) := by decide +kernel
theorem dX2_countBelow_5 : decode cX2_countBelow 5 = .ok (.iload_n 3, 1) := by decide +kernel
theorem dX2_countBelow_6 : decode cX2_countBelow 6 = .ok (.ifCond .le 40, 3) := by decide +kernel
theorem dX2_countBelow_9 : decode cX2_countBelow 9 = .ok (.iload_n 2, 1) := by decide +kernel
theorem dX2_countBelow_10 : decode cX2_countBelow 10 = .ok (.iload_n 3, 1) := by decide +kernel
theorem dX2_countBelow_11 : decode cX2_countBelow 11 = .ok (.iadd, 1) := by decide +kernel
theorem dX2_countBelow_12 : decode cX2_countBelow 12 = .ok (.istore 4, 2) := by decide +kernel
theorem dX2_countBelow_14 : decode cX2_countBelow 14 = .ok (.iload 4, 2) := by decide +kernel
theorem dX2_countBelow_16 : decode cX2_countBelow 16 = .ok (.aload_n 0, 1) := by decide +kernel
theorem dX2_countBelow_17 : decode cX2_countBelow 17 = .ok (.getfield 18, 3) := by decide +kernel
theorem dX2_countBelow_20 : decode cX2_countBelow 20 = .ok (.if_icmp .gt 19, 3) := by decide +kernel
theorem dX2_countBelow_23 : decode cX2_countBelow 23 = .ok (.aload_n 0, 1) := by decide +kernel
theorem dX2_countBelow_24 : decode cX2_countBelow 24 = .ok (.getfield 9, 3) := by decide +kernel
theorem dX2_countBelow_27 : decode cX2_countBelow 27 = .ok (.iload 4, 2) := by decide +kernel
theorem dX2_countBelow_29 : decode cX2_countBelow 29 = .ok (.iconst 1, 1) := by decide +kernel
theorem dX2_countBelow_30 : decode cX2_countBelow 30 = .ok (.isub, 1) := by decide +kernel
theorem dX2_countBelow_31 : decode cX2_countBelow 31 = .ok (.iaload, 1) := by decide +kernel
theorem dX2_countBelow_32 : decode cX2_countBelow 32 = .ok (.iload_n 1, 1) := by decide +kernel
theorem dX2_countBelow_33 : decode cX2_countBelow 33 = .ok (.if_icmp .ge 6, 3) := by decide +kernel
theorem dX2_countBelow_36 : decode cX2_countBelow 36 = .ok (.iload 4, 2) := by decide +kernel
theorem dX2_countBelow_38 : decode cX2_countBelow 38 = .ok (.istore_n 2, 1) := by decide +kernel
theorem dX2_countBelow_39 : decode cX2_countBelow 39 = .ok (.iload_n 3, 1) := by decide +kernel
theorem dX2_countBelow_40 : decode cX2_countBelow 40 = .ok (.iconst 1, 1) := by decide +kernel
theorem dX2_countBelow_41 : decode cX2_countBelow 41 = .ok (.ishr, 1) := by decide +kernel
theorem dX2_countBelow_42 : decode cX2_countBelow 42 = .ok (.istore_n 3, 1) := by decide +kernel
theorem dX2_countBelow_43 : decode cX2_countBelow 43 = .ok (.goto (-38), 3) := by decide +kernel
theorem dX2_countBelow_46 : decode cX2_countBelow 46 = .ok (.iload_n 2, 1) := by decide +kernel
theorem dX2_countBelow_47 : decode cX2_countBelow 47 = .ok (.ireturn, 1) := by decide +kernel
theorem dX2_countUpTo_0 : decode cX2_countUpTo 0 = .ok (.aload_n 0, 1) := by decide +kernel
theorem dX2_countUpTo_1 : decode cX2_countUpTo 1 = .ok (.iload_n 1, 1) := by decide +kernel
theorem dX2_countUpTo_2 : decode cX2_countUpTo 2 = .ok (.invokevirtual 22, 3) := by decide +kernel
theorem dX2_countUpTo_5 : decode cX2_countUpTo 5 = .ok (.istore_n 2, 1) := by decide +kernel
theorem dX2_countUpTo_6 : decode cX2_countUpTo 6 = .ok (.iload_n 2, 1) := by decide +kernel
theorem dX2_countUpTo_7 : decode cX2_countUpTo 7 = .ok (.aload_n 0, 1) := by decide +kernel
theorem dX2_countUpTo_8 : decode cX2_countUpTo 8 = .ok (.getfield 18, 3) := by decide +kernel
theorem dX2_countUpTo_11 : decode cX2_countUpTo 11 = .ok (.if_icmp .ge 19, 3) := by decide +kernel
theorem dX2_countUpTo_14 : decode cX2_countUpTo 14 = .ok (.aload_n 0, 1) := by decide +kernel
theorem dX2_countUpTo_15 : decode cX2_countUpTo 15 = .ok (.getfield 9, 3) := by decide +kernel
theorem dX2_countUpTo_18 : decode cX2_countUpTo 18 = .ok (.iload_n 2, 1) := by decide +kernel
theorem dX2_countUpTo_19 : decode cX2_countUpTo 19 = .ok (.iaload, 1) := by decide +kernel
theorem dX2_countUpTo_20 : decode cX2_countUpTo 20 = .ok (.iload_n 1, 1) := by decide +kernel
theorem dX2_countUpTo_21 : decode cX2_countUpTo 21 = .ok (.if_icmp .ne 9, 3) := by decide +kernel
theorem dX2_countUpTo_24 : decode cX2_countUpTo 24 = .ok (.iload_n 2, 1) := by decide +kernel
theorem dX2_countUpTo_25 : decode cX2_countUpTo 25 = .ok (.iconst 1, 1) := by decide +kernel
theorem dX2_countUpTo_26 : decode cX2_countUpTo 26 = .ok (.iadd, 1) := by decide +kernel
theorem dX2_countUpTo_27 : decode cX2_countUpTo 27 = .ok (.goto 4, 3) := by decide +kernel
theorem dX2_countUpTo_30 : decode cX2_countUpTo 30 = .ok (.iload_n 2, 1) := by decide +kernel
theorem dX2_countUpTo_31 : decode cX2_countUpTo 31 = .ok (.ireturn, 1) := by decide +kernel
theorem dX2_placeOf_0 : decode cX2_placeOf 0 = .ok (.aload_n 0, 1) := by decide +kernel
theorem dX2_placeOf_1 : decode cX2_placeOf 1 = .ok (.iload_n 1, 1) := by decide +kernel
theorem dX2_placeOf_2 : decode cX2_placeOf 2 = .ok (.invokevirtual 22, 3) := by decide +kernel
theorem dX2_placeOf_5 : decode cX2_placeOf 5 = .ok (.istore_n 2, 1) := by decide +kernel
theorem dX2_placeOf_6 : decode cX2_placeOf 6 = .ok (.iload_n 2, 1) := by decide +kernel
theorem dX2_placeOf_7 : decode cX2_placeOf 7 = .ok (.aload_n 0, 1) := by decide +kernel
theorem dX2_placeOf_8 : decode cX2_placeOf 8 = .ok (.getfield 18, 3) := by decide +kernel
theorem dX2_placeOf_11 : decode cX2_placeOf 11 = .ok (.if_icmp .ge 17, 3) := by decide +kernel
theorem dX2_placeOf_14 : decode cX2_placeOf 14 = .ok (.aload_n 0, 1) := by decide +kernel
theorem dX2_placeOf_15 : decode cX2_placeOf 15 = .ok (.getfield 9, 3) := by decide +kernel
theorem dX2_placeOf_18 : decode cX2_placeOf 18 = .ok (.iload_n 2, 1) := by decide +kernel
theorem dX2_placeOf_19 : decode cX2_placeOf 19 = .ok (.iaload, 1) := by decide +kernel
theorem dX2_placeOf_20 : decode cX2_placeOf 20 = .ok (.iload_n 1, 1) := by decide +kernel
theorem dX2_placeOf_21 : decode cX2_placeOf 21 = .ok (.if_icmp .ne 7, 3) := by decide +kernel
theorem dX2_placeOf_24 : decode cX2_placeOf 24 = .ok (.iload_n 2, 1) := by decide +kernel
theorem dX2_placeOf_25 : decode cX2_placeOf 25 = .ok (.goto 4, 3) := by decide +kernel
theorem dX2_placeOf_28 : decode cX2_placeOf 28 = .ok (.iconst (-1), 1) := by decide +kernel
theorem dX2_placeOf_29 : decode cX2_placeOf 29 = .ok (.ireturn, 1) := by decide +kernel
theorem dX2_placeNear_0 : decode cX2_placeNear 0 = .ok (.iload_n 2, 1) := by decide +kernel
theorem dX2_placeNear_1 : decode cX2_placeNear 1 = .ok (.bipush 102, 2) := by decide +kernel
theorem dX2_placeNear_3 : decode cX2_placeNear 3 = .ok (.if_icmp .eq 9, 3) := by decide +kernel
theorem dX2_placeNear_6 : decode cX2_placeNear 6 = .ok (.iload_n 2, 1) := by decide +kernel
theorem dX2_placeNear_7 : decode cX2_placeNear 7 = .ok (.bipush 104, 2) := by decide +kernel
theorem dX2_placeNear_9 : decode cX2_placeNear 9 = .ok (.if_icmp .ne 11, 3) := by decide +kernel
theorem dX2_placeNear_12 : decode cX2_placeNear 12 = .ok (.aload_n 0, 1) := by decide +kernel
theorem dX2_placeNear_13 : decode cX2_placeNear 13 = .ok (.iload_n 1, 1) := by decide +kernel
theorem dX2_placeNear_14 : decode cX2_placeNear 14 = .ok (.invokevirtual 26, 3) := by decide +kernel
theorem dX2_placeNear_17 : decode cX2_placeNear 17 = .ok (.goto 8, 3) := by decide +kernel
theorem dX2_placeNear_20 : decode cX2_placeNear 20 = .ok (.aload_n 0, 1) := by decide +kernel
theorem dX2_placeNear_21 : decode cX2_placeNear 21 = .ok (.iload_n 1, 1) := by decide +kernel
theorem dX2_placeNear_22 : decode cX2_placeNear 22 = .ok (.invokevirtual 22, 3) := by decide +kernel
theorem dX2_placeNear_25 : decode cX2_placeNear 25 = .ok (.istore 5, 2) := by decide +kernel
theorem dX2_placeNear_27 : decode cX2_placeNear 27 = .ok (.iload_n 2, 1) := by decide +kernel
theorem dX2_placeNear_28 : decode cX2_placeNear 28 = .ok (.bipush 102, 2) := by decide +kernel
theorem dX2_placeNear_30 : decode cX2_placeNear 30 = .ok (.if_icmp .eq 9, 3) := by decide +kernel
theorem dX2_placeNear_33 : decode cX2_placeNear 33 = .ok (.iload_n 2, 1) := by decide +kernel
theorem dX2_placeNear_34 : decode cX2_placeNear 34 = .ok (.bipush 108, 2) := by decide +kernel
theorem dX2_placeNear_36 : decode cX2_placeNear 36 = .ok (.if_icmp .ne 27, 3) := by decide +kernel
theorem dX2_placeNear_39 : decode cX2_placeNear 39 = .ok (.iload 5, 2) := by decide +kernel
theorem dX2_placeNear_41 : decode cX2_placeNear 41 = .ok (.iload 4, 2) := by decide +kernel
theorem dX2_placeNear_43 : decode cX2_placeNear 43 = .ok (.invokestatic 29, 3) := by decide +kernel
theorem dX2_placeNear_46 : decode cX2_placeNear 46 = .ok (.iconst 1, 1) := by decide +kernel
theorem dX2_placeNear_47 : decode cX2_placeNear 47 = .ok (.isub, 1) := by decide +kernel
theorem dX2_placeNear_48 : decode cX2_placeNear 48 = .ok (.istore 6, 2) := by decide +kernel
theorem dX2_placeNear_50 : decode cX2_placeNear 50 = .ok (.iload 6, 2) := by decide +kernel
theorem dX2_placeNear_52 : decode cX2_placeNear 52 = .ok (.iload_n 3, 1) := by decide +kernel
theorem dX2_placeNear_53 : decode cX2_placeNear 53 = .ok (.if_icmp .lt 8, 3) := by decide +kernel
theorem dX2_placeNear_56 : decode cX2_placeNear 56 = .ok (.iload 6, 2) := by decide +kernel
theorem dX2_placeNear_58 : decode cX2_placeNear 58 = .ok (.goto 4, 3) := by decide +kernel
theorem dX2_placeNear_61 : decode cX2_placeNear 61 = .ok (.iconst (-1), 1) := by decide +kernel
theorem dX2_placeNear_62 : decode cX2_placeNear 62 = .ok (.ireturn, 1) := by decide +kernel
theorem dX2_placeNear_63 : decode cX2_placeNear 63 = .ok (.iload 5, 2) := by decide +kernel
theorem dX2_placeNear_65 : decode cX2_placeNear 65 = .ok (.iload_n 3, 1) := by decide +kernel
theorem dX2_placeNear_66 : decode cX2_placeNear 66 = .ok (.invokestatic 35, 3) := by decide +kernel
theorem dX2_placeNear_69 : decode cX2_placeNear 69 = .ok (.istore 6, 2) := by decide +kernel
theorem dX2_placeNear_71 : decode cX2_placeNear 71 = .ok (.iload 6, 2) := by decide +kernel
theorem dX2_placeNear_73 : decode cX2_placeNear 73 = .ok (.iload 4, 2) := by decide +kernel
theorem dX2_placeNear_75 : decode cX2_placeNear 75 = .ok (.if_icmp .ge 8, 3) := by decide +kernel
theorem dX2_placeNear_78 : decode cX2_placeNear 78 = .ok (.iload 6, 2) := by decide +kernel
theorem dX2_placeNear_80 : decode cX2_placeNear 80 = .ok (.goto 4, 3) := by decide +kernel
theorem dX2_placeNear_83 : decode cX2_placeNear 83 = .ok (.iconst (-1), 1) := by decide +kernel
theorem dX2_placeNear_84 : decode cX2_placeNear 84 = .ok (.ireturn, 1) := by decide +kernel
theorem dX2_set_0 : decode cX2_set 0 = .ok (.aload_n 0, 1) := by decide +kernel
theorem dX2_set_1 : decode cX2_set 1 = .ok (.iload_n 1, 1) := by decide +kernel
theorem dX2_set_2 : decode cX2_set 2 = .ok (.invokevirtual 22, 3) := by decide +kernel
theorem dX2_set_5 : decode cX2_set 5 = .ok (.istore_n 3, 1) := by decide +kernel
theorem dX2_set_6 : decode cX2_set 6 = .ok (.iload_n 3, 1) := by decide +kernel
theorem dX2_set_7 : decode cX2_set 7 = .ok (.aload_n 0, 1) := by decide +kernel
theorem dX2_set_8 : decode cX2_set 8 = .ok (.getfield 18, 3) := by decide +kernel
theorem dX2_set_11 : decode cX2_set 11 = .ok (.if_icmp .ge 40, 3) := by decide +kernel
theorem dX2_set_14 : decode cX2_set 14 = .ok (.aload_n 0, 1) := by decide +kernel
theorem dX2_set_15 : decode cX2_set 15 = .ok (.getfield 9, 3) := by decide +kernel
theorem dX2_set_18 : decode cX2_set 18 = .ok (.iload_n 3, 1) := by decide +kernel
theorem dX2_set_19 : decode cX2_set 19 = .ok (.iaload, 1) := by decide +kernel
theorem dX2_set_20 : decode cX2_set 20 = .ok (.iload_n 1, 1) := by decide +kernel
theorem dX2_set_21 : decode cX2_set 21 = .ok (.if_icmp .ne 30, 3) := by decide +kernel
theorem dX2_set_24 : decode cX2_set 24 = .ok (.aload_n 0, 1) := by decide +kernel
theorem dX2_set_25 : decode cX2_set 25 = .ok (.getfield 15, 3) := by decide +kernel
theorem dX2_set_28 : decode cX2_set 28 = .ok (.iload_n 3, 1) := by decide +kernel
theorem dX2_set_29 : decode cX2_set 29 = .ok (.iaload, 1) := by decide +kernel
theorem dX2_set_30 : decode cX2_set 30 = .ok (.iload_n 2, 1) := by decide +kernel
theorem dX2_set_31 : decode cX2_set 31 = .ok (.if_icmp .eq 7, 3) := by decide +kernel
theorem dX2_set_34 : decode cX2_set 34 = .ok (.iconst 1, 1) := by decide +kernel
theorem dX2_set_35 : decode cX2_set 35 = .ok (.goto 4, 3) := by decide +kernel
theorem dX2_set_38 : decode cX2_set 38 = .ok (.iconst 0, 1) := by decide +kernel
theorem dX2_set_39 : decode cX2_set 39 = .ok (.istore 4, 2) := by decide +kernel
theorem dX2_set_41 : decode cX2_set 41 = .ok (.aload_n 0, 1) := by decide +kernel
theorem dX2_set_42 : decode cX2_set 42 = .ok (.getfield 15, 3) := by decide +kernel
theorem dX2_set_45 : decode cX2_set 45 = .ok (.iload_n 3, 1) := by decide +kernel
theorem dX2_set_46 : decode cX2_set 46 = .ok (.iload_n 2, 1) := by decide +kernel
theorem dX2_set_47 : decode cX2_set 47 = .ok (.iastore, 1) := by decide +kernel
theorem dX2_set_48 : decode cX2_set 48 = .ok (.iload 4, 2) := by decide +kernel
theorem dX2_set_50 : decode cX2_set 50 = .ok (.ireturn, 1) := by decide +kernel
theorem dX2_set_51 : decode cX2_set 51 = .ok (.aload_n 0, 1) := by decide +kernel
theorem dX2_set_52 : decode cX2_set 52 = .ok (.getfield 18, 3) := by decide +kernel
theorem dX2_set_55 : decode cX2_set 55 = .ok (.aload_n 0, 1) := by decide +kernel
theorem dX2_set_56 : decode cX2_set 56 = .ok (.getfield 9, 3) := by decide +kernel
theorem dX2_set_59 : decode cX2_set 59 = .ok (.arraylength, 1) := by decide +kernel
theorem dX2_set_60 : decode cX2_set 60 = .ok (.if_icmp .lt 5, 3) := by decide +kernel
theorem dX2_set_63 : decode cX2_set 63 = .ok (.iconst 0, 1) := by decide +kernel
theorem dX2_set_64 : decode cX2_set 64 = .ok (.ireturn, 1) := by decide +kernel
theorem dX2_set_65 : decode cX2_set 65 = .ok (.aload_n 0, 1) := by decide +kernel
theorem dX2_set_66 : decode cX2_set 66 = .ok (.getfield 9, 3) := by decide +kernel
theorem dX2_set_69 : decode cX2_set 69 = .ok (.iload_n 3, 1) := by decide +kernel
theorem dX2_set_70 : decode cX2_set 70 = .ok (.aload_n 0, 1) := by decide +kernel
theorem dX2_set_71 : decode cX2_set 71 = .ok (.getfield 9, 3) := by decide +kernel
theorem dX2_set_74 : decode cX2_set 74 = .ok (.iload_n 3, 1) := by decide +kernel
theorem dX2_set_75 : decode cX2_set 75 = .ok (.iconst 1, 1) := by decide +kernel
theorem dX2_set_76 : decode cX2_set 76 = .ok (.iadd, 1) := by decide +kernel
theorem dX2_set_77 : decode cX2_set 77 = .ok (.aload_n 0, 1) := by decide +kernel
theorem dX2_set_78 : decode cX2_set 78 = .ok (.getfield 18, 3) := by decide +kernel
theorem dX2_set_81 : decode cX2_set 81 = .ok (.iload_n 3, 1) := by decide +kernel
theorem dX2_set_82 : decode cX2_set 82 = .ok (.isub, 1) := by decide +kernel
theorem dX2_set_83 : decode cX2_set 83 = .ok (.invokestatic 38, 3) := by decide +kernel
theorem dX2_set_86 : decode cX2_set 86 = .ok (.aload_n 0, 1) := by decide +kernel
theorem dX2_set_87 : decode cX2_set 87 = .ok (.getfield 15, 3) := by decide +kernel
theorem dX2_set_90 : decode cX2_set 90 = .ok (.iload_n 3, 1) := by decide +kernel
theorem dX2_set_91 : decode cX2_set 91 = .ok (.aload_n 0, 1) := by decide +kernel
theorem dX2_set_92 : decode cX2_set 92 = .ok (.getfield 15, 3) := by decide +kernel
theorem dX2_set_95 : decode cX2_set 95 = .ok (.iload_n 3, 1) := by decide +kernel
theorem dX2_set_96 : decode cX2_set 96 = .ok (.iconst 1, 1) := by decide +kernel
theorem dX2_set_97 : decode cX2_set 97 = .ok (.iadd, 1) := by decide +kernel
theorem dX2_set_98 : decode cX2_set 98 = .ok (.aload_n 0, 1) := by decide +kernel
theorem dX2_set_99 : decode cX2_set 99 = .ok (.getfield 18, 3) := by decide +kernel
theorem dX2_set_102 : decode cX2_set 102 = .ok (.iload_n 3, 1) := by decide +kernel
theorem dX2_set_103 : decode cX2_set 103 = .ok (.isub, 1) := by decide +kernel
theorem dX2_set_104 : decode cX2_set 104 = .ok (.invokestatic 38, 3) := by decide +kernel
theorem dX2_set_107 : decode cX2_set 107 = .ok (.aload_n 0, 1) := by decide +kernel
theorem dX2_set_108 : decode cX2_set 108 = .ok (.getfield 9, 3) := by decide +kernel
theorem dX2_set_111 : decode cX2_set 111 = .ok (.iload_n 3, 1) := by decide +kernel
theorem dX2_set_112 : decode cX2_set 112 = .ok (.iload_n 1, 1) := by decide +kernel
theorem dX2_set_113 : decode cX2_set 113 = .ok (.iastore, 1) := by decide +kernel
theorem dX2_set_114 : decode cX2_set 114 = .ok (.aload_n 0, 1) := by decide +kernel
theorem dX2_set_115 : decode cX2_set 115 = .ok (.getfield 15, 3) := by decide +kernel
theorem dX2_set_118 : decode cX2_set 118 = .ok (.iload_n 3, 1) := by decide +kernel
theorem dX2_set_119 : decode cX2_set 119 = .ok (.iload_n 2, 1) := by decide +kernel
theorem dX2_set_120 : decode cX2_set 120 = .ok (.iastore, 1) := by decide +kernel
theorem dX2_set_121 : decode cX2_set 121 = .ok (.aload_n 0, 1) := by decide +kernel
theorem dX2_set_122 : decode cX2_set 122 = .ok (.dup, 1) := by decide +kernel
theorem dX2_set_123 : decode cX2_set 123 = .ok (.getfield 18, 3) := by decide +kernel
theorem dX2_set_126 : decode cX2_set 126 = .ok (.iconst 1, 1) := by decide +kernel
theorem dX2_set_127 : decode cX2_set 127 = .ok (.iadd, 1) := by decide +kernel
theorem dX2_set_128 : decode cX2_set 128 = .ok (.putfield 18, 3) := by decide +kernel
theorem dX2_set_131 : decode cX2_set 131 = .ok (.iconst 1, 1) := by decide +kernel
theorem dX2_set_132 : decode cX2_set 132 = .ok (.ireturn, 1) := by decide +kernel
theorem dX2_drop_0 : decode cX2_drop 0 = .ok (.aload_n 0, 1) := by decide +kernel
theorem dX2_drop_1 : decode cX2_drop 1 = .ok (.iload_n 1, 1) := by decide +kernel
theorem dX2_drop_2 : decode cX2_drop 2 = .ok (.invokevirtual 22, 3) := by decide +kernel
theorem dX2_drop_5 : decode cX2_drop 5 = .ok (.istore_n 2, 1) := by decide +kernel
theorem dX2_drop_6 : decode cX2_drop 6 = .ok (.iload_n 2, 1) := by decide +kernel
theorem dX2_drop_7 : decode cX2_drop 7 = .ok (.aload_n 0, 1) := by decide +kernel
theorem dX2_drop_8 : decode cX2_drop 8 = .ok (.getfield 18, 3) := by decide +kernel
theorem dX2_drop_11 : decode cX2_drop 11 = .ok (.if_icmp .ge 13, 3) := by decide +kernel
theorem dX2_drop_14 : decode cX2_drop 14 = .ok (.aload_n 0, 1) := by decide +kernel
theorem dX2_drop_15 : decode cX2_drop 15 = .ok (.getfield 9, 3) := by decide +kernel
theorem dX2_drop_18 : decode cX2_drop 18 = .ok (.iload_n 2, 1) := by decide +kernel
theorem dX2_drop_19 : decode cX2_drop 19 = .ok (.iaload, 1) := by decide +kernel
theorem dX2_drop_20 : decode cX2_drop 20 = .ok (.iload_n 1, 1) := by decide +kernel
theorem dX2_drop_21 : decode cX2_drop 21 = .ok (.if_icmp .eq 5, 3) := by decide +kernel
theorem dX2_drop_24 : decode cX2_drop 24 = .ok (.iconst 0, 1) := by decide +kernel
theorem dX2_drop_25 : decode cX2_drop 25 = .ok (.ireturn, 1) := by decide +kernel
theorem dX2_drop_26 : decode cX2_drop 26 = .ok (.aload_n 0, 1) := by decide +kernel
theorem dX2_drop_27 : decode cX2_drop 27 = .ok (.iload_n 2, 1) := by decide +kernel
theorem dX2_drop_28 : decode cX2_drop 28 = .ok (.iload_n 2, 1) := by decide +kernel
theorem dX2_drop_29 : decode cX2_drop 29 = .ok (.iconst 1, 1) := by decide +kernel
theorem dX2_drop_30 : decode cX2_drop 30 = .ok (.iadd, 1) := by decide +kernel
theorem dX2_drop_31 : decode cX2_drop 31 = .ok (.invokevirtual 44, 3) := by decide +kernel
theorem dX2_drop_34 : decode cX2_drop 34 = .ok (.iconst 1, 1) := by decide +kernel
theorem dX2_drop_35 : decode cX2_drop 35 = .ok (.ireturn, 1) := by decide +kernel
theorem dX2_dropPlaces_0 : decode cX2_dropPlaces 0 = .ok (.iload_n 1, 1) := by decide +kernel
theorem dX2_dropPlaces_1 : decode cX2_dropPlaces 1 = .ok (.ifCond .lt 16, 3) := by decide +kernel
theorem dX2_dropPlaces_4 : decode cX2_dropPlaces 4 = .ok (.iload_n 1, 1) := by decide +kernel
theorem dX2_dropPlaces_5 : decode cX2_dropPlaces 5 = .ok (.iload_n 2, 1) := by decide +kernel
theorem dX2_dropPlaces_6 : decode cX2_dropPlaces 6 = .ok (.if_icmp .ge 11, 3) := by decide +kernel
theorem dX2_dropPlaces_9 : decode cX2_dropPlaces 9 = .ok (.iload_n 2, 1) := by decide +kernel
theorem dX2_dropPlaces_10 : decode cX2_dropPlaces 10 = .ok (.aload_n 0, 1) := by decide +kernel
theorem dX2_dropPlaces_11 : decode cX2_dropPlaces 11 = .ok (.getfield 18, 3) := by decide +kernel
theorem dX2_dropPlaces_14 : decode cX2_dropPlaces 14 = .ok (.if_icmp .le 4, 3) := by decide +kernel
theorem dX2_dropPlaces_17 : decode cX2_dropPlaces 17 = .ok (.return_, 1) := by decide +kernel
theorem dX2_dropPlaces_18 : decode cX2_dropPlaces 18 = .ok (.aload_n 0, 1) := by decide +kernel
theorem dX2_dropPlaces_19 : decode cX2_dropPlaces 19 = .ok (.getfield 9, 3) := by decide +kernel
theorem dX2_dropPlaces_22 : decode cX2_dropPlaces 22 = .ok (.iload_n 2, 1) := by decide +kernel
theorem dX2_dropPlaces_23 : decode cX2_dropPlaces 23 = .ok (.aload_n 0, 1) := by decide +kernel
theorem dX2_dropPlaces_24 : decode cX2_dropPlaces 24 = .ok (.getfield 9, 3) := by decide +kernel
theorem dX2_dropPlaces_27 : decode cX2_dropPlaces 27 = .ok (.iload_n 1, 1) := by decide +kernel
theorem dX2_dropPlaces_28 : decode cX2_dropPlaces 28 = .ok (.aload_n 0, 1) := by decide +kernel
theorem dX2_dropPlaces_29 : decode cX2_dropPlaces 29 = .ok (.getfield 18, 3) := by decide +kernel
theorem dX2_dropPlaces_32 : decode cX2_dropPlaces 32 = .ok (.iload_n 2, 1) := by decide +kernel
theorem dX2_dropPlaces_33 : decode cX2_dropPlaces 33 = .ok (.isub, 1) := by decide +kernel
theorem dX2_dropPlaces_34 : decode cX2_dropPlaces 34 = .ok (.invokestatic 38, 3) := by decide +kernel
theorem dX2_dropPlaces_37 : decode cX2_dropPlaces 37 = .ok (.aload_n 0, 1) := by decide +kernel
theorem dX2_dropPlaces_38 : decode cX2_dropPlaces 38 = .ok (.getfield 15, 3) := by decide +kernel
theorem dX2_dropPlaces_41 : decode cX2_dropPlaces 41 = .ok (.iload_n 2, 1) := by decide +kernel
theorem dX2_dropPlaces_42 : decode cX2_dropPlaces 42 = .ok (.aload_n 0, 1) := by decide +kernel
theorem dX2_dropPlaces_43 : decode cX2_dropPlaces 43 = .ok (.getfield 15, 3) := by decide +kernel
theorem dX2_dropPlaces_46 : decode cX2_dropPlaces 46 = .ok (.iload_n 1, 1) := by decide +kernel
theorem dX2_dropPlaces_47 : decode cX2_dropPlaces 47 = .ok (.aload_n 0, 1) := by decide +kernel
theorem dX2_dropPlaces_48 : decode cX2_dropPlaces 48 = .ok (.getfield 18, 3) := by decide +kernel
theorem dX2_dropPlaces_51 : decode cX2_dropPlaces 51 = .ok (.iload_n 2, 1) := by decide +kernel
theorem dX2_dropPlaces_52 : decode cX2_dropPlaces 52 = .ok (.isub, 1) := by decide +kernel
theorem dX2_dropPlaces_53 : decode cX2_dropPlaces 53 = .ok (.invokestatic 38, 3) := by decide +kernel
theorem dX2_dropPlaces_56 : decode cX2_dropPlaces 56 = .ok (.aload_n 0, 1) := by decide +kernel
theorem dX2_dropPlaces_57 : decode cX2_dropPlaces 57 = .ok (.dup, 1) := by decide +kernel
theorem dX2_dropPlaces_58 : decode cX2_dropPlaces 58 = .ok (.getfield 18, 3) := by decide +kernel
theorem dX2_dropPlaces_61 : decode cX2_dropPlaces 61 = .ok (.iload_n 2, 1) := by decide +kernel
theorem dX2_dropPlaces_62 : decode cX2_dropPlaces 62 = .ok (.iload_n 1, 1) := by decide +kernel
theorem dX2_dropPlaces_63 : decode cX2_dropPlaces 63 = .ok (.isub, 1) := by decide +kernel
theorem dX2_dropPlaces_64 : decode cX2_dropPlaces 64 = .ok (.isub, 1) := by decide +kernel
theorem dX2_dropPlaces_65 : decode cX2_dropPlaces 65 = .ok (.putfield 18, 3) := by decide +kernel
theorem dX2_dropPlaces_68 : decode cX2_dropPlaces 68 = .ok (.return_, 1) := by decide +kernel
theorem dX2_change_0 : decode cX2_change 0 = .ok (.iload_n 1, 1) := by decide +kernel
theorem dX2_change_1 : decode cX2_change 1 = .ok (.bipush 114, 2) := by decide +kernel
theorem dX2_change_3 : decode cX2_change 3 = .ok (.if_icmp .ne 9, 3) := by decide +kernel
theorem dX2_change_6 : decode cX2_change 6 = .ok (.aload_n 0, 1) := by decide +kernel
theorem dX2_change_7 : decode cX2_change 7 = .ok (.iload_n 2, 1) := by decide +kernel
theorem dX2_change_8 : decode cX2_change 8 = .ok (.invokevirtual 48, 3) := by decide +kernel
theorem dX2_change_11 : decode cX2_change 11 = .ok (.ireturn, 1) := by decide +kernel
theorem dX2_change_12 : decode cX2_change 12 = .ok (.aload_n 0, 1) := by decide +kernel
theorem dX2_change_13 : decode cX2_change 13 = .ok (.iload_n 2, 1) := by decide +kernel
theorem dX2_change_14 : decode cX2_change 14 = .ok (.invokevirtual 52, 3) := by decide +kernel
theorem dX2_change_17 : decode cX2_change 17 = .ok (.istore 4, 2) := by decide +kernel
theorem dX2_change_19 : decode cX2_change 19 = .ok (.iload_n 1, 1) := by decide +kernel
theorem dX2_change_20 : decode cX2_change 20 = .ok (.bipush 115, 2) := by decide +kernel
theorem dX2_change_22 : decode cX2_change 22 = .ok (.if_icmp .ne 23, 3) := by decide +kernel
theorem dX2_change_25 : decode cX2_change 25 = .ok (.iload 4, 2) := by decide +kernel
theorem dX2_change_27 : decode cX2_change 27 = .ok (.ifCond .lt 18, 3) := by decide +kernel
theorem dX2_change_30 : decode cX2_change 30 = .ok (.aload_n 0, 1) := by decide +kernel
theorem dX2_change_31 : decode cX2_change 31 = .ok (.iload_n 2, 1) := by decide +kernel
theorem dX2_change_32 : decode cX2_change 32 = .ok (.aload_n 0, 1) := by decide +kernel
theorem dX2_change_33 : decode cX2_change 33 = .ok (.getfield 15, 3) := by decide +kernel
theorem dX2_change_36 : decode cX2_change 36 = .ok (.iload 4, 2) := by decide +kernel
theorem dX2_change_38 : decode cX2_change 38 = .ok (.iaload, 1) := by decide +kernel
theorem dX2_change_39 : decode cX2_change 39 = .ok (.iload_n 3, 1) := by decide +kernel
theorem dX2_change_40 : decode cX2_change 40 = .ok (.iadd, 1) := by decide +kernel
theorem dX2_change_41 : decode cX2_change 41 = .ok (.invokevirtual 55, 3) := by decide +kernel
theorem dX2_change_44 : decode cX2_change 44 = .ok (.ireturn, 1) := by decide +kernel
theorem dX2_change_45 : decode cX2_change 45 = .ok (.iload_n 1, 1) := by decide +kernel
theorem dX2_change_46 : decode cX2_change 46 = .ok (.bipush 97, 2) := by decide +kernel
theorem dX2_change_48 : decode cX2_change 48 = .ok (.if_icmp .ne 8, 3) := by decide +kernel
theorem dX2_change_51 : decode cX2_change 51 = .ok (.iload 4, 2) := by decide +kernel
theorem dX2_change_53 : decode cX2_change 53 = .ok (.ifCond .ge 14, 3) := by decide +kernel
theorem dX2_change_56 : decode cX2_change 56 = .ok (.iload_n 1, 1) := by decide +kernel
theorem dX2_change_57 : decode cX2_change 57 = .ok (.bipush 120, 2) := by decide +kernel
theorem dX2_change_59 : decode cX2_change 59 = .ok (.if_icmp .ne 10, 3) := by decide +kernel
theorem dX2_change_62 : decode cX2_change 62 = .ok (.iload 4, 2) := by decide +kernel
theorem dX2_change_64 : decode cX2_change 64 = .ok (.ifCond .ge 5, 3) := by decide +kernel
theorem dX2_change_67 : decode cX2_change 67 = .ok (.iconst 0, 1) := by decide +kernel
theorem dX2_change_68 : decode cX2_change 68 = .ok (.ireturn, 1) := by decide +kernel
theorem dX2_change_69 : decode cX2_change 69 = .ok (.aload_n 0, 1) := by decide +kernel
theorem dX2_change_70 : decode cX2_change 70 = .ok (.iload_n 2, 1) := by decide +kernel
theorem dX2_change_71 : decode cX2_change 71 = .ok (.iload_n 3, 1) := by decide +kernel
theorem dX2_change_72 : decode cX2_change 72 = .ok (.invokevirtual 55, 3) := by decide +kernel
theorem dX2_change_75 : decode cX2_change 75 = .ok (.ireturn, 1) := by decide +kernel
theorem dX2_countMissingIn_0 : decode cX2_countMissingIn 0 = .ok (.iconst 0, 1) := by decide +kernel
theorem dX2_countMissingIn_1 : decode cX2_countMissingIn 1 = .ok (.istore_n 2, 1) := by decide +kernel
theorem dX2_countMissingIn_2 : decode cX2_countMissingIn 2 = .ok (.iconst 0, 1) := by decide +kernel
theorem dX2_countMissingIn_3 : decode cX2_countMissingIn 3 = .ok (.istore_n 3, 1) := by decide +kernel
theorem dX2_countMissingIn_4 : decode cX2_countMissingIn 4 = .ok (.iload_n 3, 1) := by decide +kernel
theorem dX2_countMissingIn_5 : decode cX2_countMissingIn 5 = .ok (.aload_n 0, 1) := by decide +kernel
theorem dX2_countMissingIn_6 : decode cX2_countMissingIn 6 = .ok (.getfield 18, 3) := by decide +kernel
theorem dX2_countMissingIn_9 : decode cX2_countMissingIn 9 = .ok (.if_icmp .ge 25, 3) := by decide +kernel
theorem dX2_countMissingIn_12 : decode cX2_countMissingIn 12 = .ok (.aload_n 1, 1) := by decide +kernel
theorem dX2_countMissingIn_13 : decode cX2_countMissingIn 13 = .ok (.aload_n 0, 1) := by decide +kernel
theorem dX2_countMissingIn_14 : decode cX2_countMissingIn 14 = .ok (.getfield 9, 3) := by decide +kernel
theorem dX2_countMissingIn_17 : decode cX2_countMissingIn 17 = .ok (.iload_n 3, 1) := by decide +kernel
theorem dX2_countMissingIn_18 : decode cX2_countMissingIn 18 = .ok (.iaload, 1) := by decide +kernel
theorem dX2_countMissingIn_19 : decode cX2_countMissingIn 19 = .ok (.invokevirtual 52, 3) := by decide +kernel
theorem dX2_countMissingIn_22 : decode cX2_countMissingIn 22 = .ok (.ifCond .ge 6, 3) := by decide +kernel
theorem dX2_countMissingIn_25 : decode cX2_countMissingIn 25 = .ok (.iinc 2 1, 3) := by decide +kernel
theorem dX2_countMissingIn_28 : decode cX2_countMissingIn 28 = .ok (.iinc 3 1, 3) := by decide +kernel
theorem dX2_countMissingIn_31 : decode cX2_countMissingIn 31 = .ok (.goto (-27), 3) := by decide +kernel
theorem dX2_countMissingIn_34 : decode cX2_countMissingIn 34 = .ok (.iload_n 2, 1) := by decide +kernel
theorem dX2_countMissingIn_35 : decode cX2_countMissingIn 35 = .ok (.ireturn, 1) := by decide +kernel
theorem dX2_takeIn_0 : decode cX2_takeIn 0 = .ok (.iconst 0, 1) := by decide +kernel
theorem dX2_takeIn_1 : decode cX2_takeIn 1 = .ok (.istore_n 3, 1) := by decide +kernel
theorem dX2_takeIn_2 : decode cX2_takeIn 2 = .ok (.iload_n 3, 1) := by decide +kernel
theorem dX2_takeIn_3 : decode cX2_takeIn 3 = .ok (.aload_n 1, 1) := by decide +kernel
theorem dX2_takeIn_4 : decode cX2_takeIn 4 = .ok (.getfield 18, 3) := by decide +kernel
theorem dX2_takeIn_7 : decode cX2_takeIn 7 = .ok (.if_icmp .ge 63, 3) := by decide +kernel
theorem dX2_takeIn_10 : decode cX2_takeIn 10 = .ok (.aload_n 1, 1) := by decide +kernel
theorem dX2_takeIn_11 : decode cX2_takeIn 11 = .ok (.getfield 9, 3) := by decide +kernel
theorem dX2_takeIn_14 : decode cX2_takeIn 14 = .ok (.iload_n 3, 1) := by decide +kernel
theorem dX2_takeIn_15 : decode cX2_takeIn 15 = .ok (.iaload, 1) := by decide +kernel
theorem dX2_takeIn_16 : decode cX2_takeIn 16 = .ok (.istore 4, 2) := by decide +kernel
theorem dX2_takeIn_18 : decode cX2_takeIn 18 = .ok (.aload_n 1, 1) := by decide +kernel
theorem dX2_takeIn_19 : decode cX2_takeIn 19 = .ok (.getfield 15, 3) := by decide +kernel
theorem dX2_takeIn_22 : decode cX2_takeIn 22 = .ok (.iload_n 3, 1) := by decide +kernel
theorem dX2_takeIn_23 : decode cX2_takeIn 23 = .ok (.iaload, 1) := by decide +kernel
theorem dX2_takeIn_24 : decode cX2_takeIn 24 = .ok (.istore 5, 2) := by decide +kernel
theorem dX2_takeIn_26 : decode cX2_takeIn 26 = .ok (.aload_n 0, 1) := by decide +kernel
theorem dX2_takeIn_27 : decode cX2_takeIn 27 = .ok (.iload 4, 2) := by decide +kernel
theorem dX2_takeIn_29 : decode cX2_takeIn 29 = .ok (.invokevirtual 52, 3) := by decide +kernel
theorem dX2_takeIn_32 : decode cX2_takeIn 32 = .ok (.istore 6, 2) := by decide +kernel
theorem dX2_takeIn_34 : decode cX2_takeIn 34 = .ok (.aload_n 0, 1) := by decide +kernel
theorem dX2_takeIn_35 : decode cX2_takeIn 35 = .ok (.iload 4, 2) := by decide +kernel
theorem dX2_takeIn_37 : decode cX2_takeIn 37 = .ok (.iload 6, 2) := by decide +kernel
theorem dX2_takeIn_39 : decode cX2_takeIn 39 = .ok (.ifCond .ge 8, 3) := by decide +kernel
theorem dX2_takeIn_42 : decode cX2_takeIn 42 = .ok (.iload 5, 2) := by decide +kernel
theorem dX2_takeIn_44 : decode cX2_takeIn 44 = .ok (.goto 16, 3) := by decide +kernel
theorem dX2_takeIn_47 : decode cX2_takeIn 47 = .ok (.aload_n 0, 1) := by decide +kernel
theorem dX2_takeIn_48 : decode cX2_takeIn 48 = .ok (.getfield 15, 3) := by decide +kernel
theorem dX2_takeIn_51 : decode cX2_takeIn 51 = .ok (.iload 6, 2) := by decide +kernel
theorem dX2_takeIn_53 : decode cX2_takeIn 53 = .ok (.iaload, 1) := by decide +kernel
theorem dX2_takeIn_54 : decode cX2_takeIn 54 = .ok (.iload 5, 2) := by decide +kernel
theorem dX2_takeIn_56 : decode cX2_takeIn 56 = .ok (.iload_n 2, 1) := by decide +kernel
theorem dX2_takeIn_57 : decode cX2_takeIn 57 = .ok (.invokestatic 59, 3) := by decide +kernel
theorem dX2_takeIn_60 : decode cX2_takeIn 60 = .ok (.invokevirtual 55, 3) := by decide +kernel
theorem dX2_takeIn_63 : decode cX2_takeIn 63 = .ok (.pop, 1) := by decide +kernel
theorem dX2_takeIn_64 : decode cX2_takeIn 64 = .ok (.iinc 3 1, 3) := by decide +kernel
theorem dX2_takeIn_67 : decode cX2_takeIn 67 = .ok (.goto (-65), 3) := by decide +kernel
theorem dX2_takeIn_70 : decode cX2_takeIn 70 = .ok (.return_, 1) := by decide +kernel
theorem dX2_mix_0 : decode cX2_mix 0 = .ok (.iload_n 2, 1) := by decide +kernel
theorem dX2_mix_1 : decode cX2_mix 1 = .ok (.bipush 115, 2) := by decide +kernel
theorem dX2_mix_3 : decode cX2_mix 3 = .ok (.if_icmp .ne 7, 3) := by decide +kernel
theorem dX2_mix_6 : decode cX2_mix 6 = .ok (.iload_n 0, 1) := by decide +kernel
theorem dX2_mix_7 : decode cX2_mix 7 = .ok (.iload_n 1, 1) := by decide +kernel
theorem dX2_mix_8 : decode cX2_mix 8 = .ok (.iadd, 1) := by decide +kernel
theorem dX2_mix_9 : decode cX2_mix 9 = .ok (.ireturn, 1) := by decide +kernel
theorem dX2_mix_10 : decode cX2_mix 10 = .ok (.iload_n 2, 1) := by decide +kernel
theorem dX2_mix_11 : decode cX2_mix 11 = .ok (.bipush 103, 2) := by decide +kernel
theorem dX2_mix_13 : decode cX2_mix 13 = .ok (.if_icmp .ne 11, 3) := by decide +kernel
theorem dX2_mix_16 : decode cX2_mix 16 = .ok (.iload_n 0, 1) := by decide +kernel
theorem dX2_mix_17 : decode cX2_mix 17 = .ok (.iload_n 1, 1) := by decide +kernel
theorem dX2_mix_18 : decode cX2_mix 18 = .ok (.invokestatic 35, 3) := by decide +kernel
theorem dX2_mix_21 : decode cX2_mix 21 = .ok (.goto 8, 3) := by decide +kernel
theorem dX2_mix_24 : decode cX2_mix 24 = .ok (.iload_n 0, 1) := by decide +kernel
theorem dX2_mix_25 : decode cX2_mix 25 = .ok (.iload_n 1, 1) := by decide +kernel
theorem dX2_mix_26 : decode cX2_mix 26 = .ok (.invokestatic 29, 3) := by decide +kernel
theorem dX2_mix_29 : decode cX2_mix 29 = .ok (.ireturn, 1) := by decide +kernel
theorem dX2_becomeCopy_0 : decode cX2_becomeCopy 0 = .ok (.aload_n 0, 1) := by decide +kernel
theorem dX2_becomeCopy_1 : decode cX2_becomeCopy 1 = .ok (.aload_n 1, 1) := by decide +kernel
theorem dX2_becomeCopy_2 : decode cX2_becomeCopy 2 = .ok (.getfield 18, 3) := by decide +kernel
theorem dX2_becomeCopy_5 : decode cX2_becomeCopy 5 = .ok (.putfield 18, 3) := by decide +kernel
theorem dX2_becomeCopy_8 : decode cX2_becomeCopy 8 = .ok (.aload_n 1, 1) := by decide +kernel
theorem dX2_becomeCopy_9 : decode cX2_becomeCopy 9 = .ok (.getfield 9, 3) := by decide +kernel
theorem dX2_becomeCopy_12 : decode cX2_becomeCopy 12 = .ok (.iconst 0, 1) := by decide +kernel
theorem dX2_becomeCopy_13 : decode cX2_becomeCopy 13 = .ok (.aload_n 0, 1) := by decide +kernel
theorem dX2_becomeCopy_14 : decode cX2_becomeCopy 14 = .ok (.getfield 9, 3) := by decide +kernel
theorem dX2_becomeCopy_17 : decode cX2_becomeCopy 17 = .ok (.iconst 0, 1) := by decide +kernel
theorem dX2_becomeCopy_18 : decode cX2_becomeCopy 18 = .ok (.aload_n 0, 1) := by decide +kernel
theorem dX2_becomeCopy_19 : decode cX2_becomeCopy 19 = .ok (.getfield 18, 3) := by decide +kernel
theorem dX2_becomeCopy_22 : decode cX2_becomeCopy 22 = .ok (.invokestatic 38, 3) := by decide +kernel
theorem dX2_becomeCopy_25 : decode cX2_becomeCopy 25 = .ok (.aload_n 1, 1) := by decide +kernel
theorem dX2_becomeCopy_26 : decode cX2_becomeCopy 26 = .ok (.getfield 15, 3) := by decide +kernel
theorem dX2_becomeCopy_29 : decode cX2_becomeCopy 29 = .ok (.iconst 0, 1) := by decide +kernel
theorem dX2_becomeCopy_30 : decode cX2_becomeCopy 30 = .ok (.aload_n 0, 1) := by decide +kernel
theorem dX2_becomeCopy_31 : decode cX2_becomeCopy 31 = .ok (.getfield 15, 3) := by decide +kernel
theorem dX2_becomeCopy_34 : decode cX2_becomeCopy 34 = .ok (.iconst 0, 1) := by decide +kernel
theorem dX2_becomeCopy_35 : decode cX2_becomeCopy 35 = .ok (.aload_n 0, 1) := by decide +kernel
theorem dX2_becomeCopy_36 : decode cX2_becomeCopy 36 = .ok (.getfield 18, 3) := by decide +kernel
theorem dX2_becomeCopy_39 : decode cX2_becomeCopy 39 = .ok (.invokestatic 38, 3) := by decide +kernel
theorem dX2_becomeCopy_42 : decode cX2_becomeCopy 42 = .ok (.return_, 1) := by decide +kernel
theorem dX2_isSame_0 : decode cX2_isSame 0 = .ok (.aload_n 0, 1) := by decide +kernel
theorem dX2_isSame_1 : decode cX2_isSame 1 = .ok (.getfield 18, 3) := by decide +kernel
theorem dX2_isSame_4 : decode cX2_isSame 4 = .ok (.aload_n 1, 1) := by decide +kernel
theorem dX2_isSame_5 : decode cX2_isSame 5 = .ok (.getfield 18, 3) := by decide +kernel
theorem dX2_isSame_8 : decode cX2_isSame 8 = .ok (.if_icmp .eq 5, 3) := by decide +kernel
theorem dX2_isSame_11 : decode cX2_isSame 11 = .ok (.iconst 0, 1) := by decide +kernel
theorem dX2_isSame_12 : decode cX2_isSame 12 = .ok (.ireturn, 1) := by decide +kernel
theorem dX2_isSame_13 : decode cX2_isSame 13 = .ok (.iconst 0, 1) := by decide +kernel
theorem dX2_isSame_14 : decode cX2_isSame 14 = .ok (.istore_n 2, 1) := by decide +kernel
theorem dX2_isSame_15 : decode cX2_isSame 15 = .ok (.iload_n 2, 1) := by decide +kernel
theorem dX2_isSame_16 : decode cX2_isSame 16 = .ok (.aload_n 0, 1) := by decide +kernel
theorem dX2_isSame_17 : decode cX2_isSame 17 = .ok (.getfield 18, 3) := by decide +kernel
theorem dX2_isSame_20 : decode cX2_isSame 20 = .ok (.if_icmp .ge 21, 3) := by decide +kernel
theorem dX2_isSame_23 : decode cX2_isSame 23 = .ok (.aload_n 0, 1) := by decide +kernel
theorem dX2_isSame_24 : decode cX2_isSame 24 = .ok (.iload_n 2, 1) := by decide +kernel
theorem dX2_isSame_25 : decode cX2_isSame 25 = .ok (.aload_n 1, 1) := by decide +kernel
theorem dX2_isSame_26 : decode cX2_isSame 26 = .ok (.iload_n 2, 1) := by decide +kernel
theorem dX2_isSame_27 : decode cX2_isSame 27 = .ok (.invokevirtual 63, 3) := by decide +kernel
theorem dX2_isSame_30 : decode cX2_isSame 30 = .ok (.ifCond .ne 5, 3) := by decide +kernel
theorem dX2_isSame_33 : decode cX2_isSame 33 = .ok (.iconst 0, 1) := by decide +kernel
theorem dX2_isSame_34 : decode cX2_isSame 34 = .ok (.ireturn, 1) := by decide +kernel
theorem dX2_isSame_35 : decode cX2_isSame 35 = .ok (.iinc 2 1, 3) := by decide +kernel
theorem dX2_isSame_38 : decode cX2_isSame 38 = .ok (.goto (-23), 3) := by decide +kernel
theorem dX2_isSame_41 : decode cX2_isSame 41 = .ok (.iconst 1, 1) := by decide +kernel
theorem dX2_isSame_42 : decode cX2_isSame 42 = .ok (.ireturn, 1) := by decide +kernel
theorem dX2_hasSameAt_0 : decode cX2_hasSameAt 0 = .ok (.aload_n 0, 1) := by decide +kernel
theorem dX2_hasSameAt_1 : decode cX2_hasSameAt 1 = .ok (.getfield 9, 3) := by decide +kernel
theorem dX2_hasSameAt_4 : decode cX2_hasSameAt 4 = .ok (.iload_n 1, 1) := by decide +kernel
theorem dX2_hasSameAt_5 : decode cX2_hasSameAt 5 = .ok (.iaload, 1) := by decide +kernel
theorem dX2_hasSameAt_6 : decode cX2_hasSameAt 6 = .ok (.aload_n 2, 1) := by decide +kernel
theorem dX2_hasSameAt_7 : decode cX2_hasSameAt 7 = .ok (.getfield 9, 3) := by decide +kernel
theorem dX2_hasSameAt_10 : decode cX2_hasSameAt 10 = .ok (.iload_n 3, 1) := by decide +kernel
theorem dX2_hasSameAt_11 : decode cX2_hasSameAt 11 = .ok (.iaload, 1) := by decide +kernel
theorem dX2_hasSameAt_12 : decode cX2_hasSameAt 12 = .ok (.if_icmp .ne 22, 3) := by decide +kernel
theorem dX2_hasSameAt_15 : decode cX2_hasSameAt 15 = .ok (.aload_n 0, 1) := by decide +kernel
theorem dX2_hasSameAt_16 : decode cX2_hasSameAt 16 = .ok (.getfield 15, 3) := by decide +kernel
theorem dX2_hasSameAt_19 : decode cX2_hasSameAt 19 = .ok (.iload_n 1, 1) := by decide +kernel
theorem dX2_hasSameAt_20 : decode cX2_hasSameAt 20 = .ok (.iaload, 1) := by decide +kernel
theorem dX2_hasSameAt_21 : decode cX2_hasSameAt 21 = .ok (.aload_n 2, 1) := by decide +kernel
theorem dX2_hasSameAt_22 : decode cX2_hasSameAt 22 = .ok (.getfield 15, 3) := by decide +kernel
theorem dX2_hasSameAt_25 : decode cX2_hasSameAt 25 = .ok (.iload_n 3, 1) := by decide +kernel
theorem dX2_hasSameAt_26 : decode cX2_hasSameAt 26 = .ok (.iaload, 1) := by decide +kernel
theorem dX2_hasSameAt_27 : decode cX2_hasSameAt 27 = .ok (.if_icmp .ne 7, 3) := by decide +kernel
theorem dX2_hasSameAt_30 : decode cX2_hasSameAt 30 = .ok (.iconst 1, 1) := by decide +kernel
theorem dX2_hasSameAt_31 : decode cX2_hasSameAt 31 = .ok (.goto 4, 3) := by decide +kernel
theorem dX2_hasSameAt_34 : decode cX2_hasSameAt 34 = .ok (.iconst 0, 1) := by decide +kernel
theorem dX2_hasSameAt_35 : decode cX2_hasSameAt 35 = .ok (.ireturn, 1) := by decide +kernel
theorem dX2_addTo_0 : decode cX2_addTo 0 = .ok (.lload_n 1, 1) := by decide +kernel
theorem dX2_addTo_1 : decode cX2_addTo 1 = .ok (.aload_n 0, 1) := by decide +kernel
theorem dX2_addTo_2 : decode cX2_addTo 2 = .ok (.getfield 18, 3) := by decide +kernel
theorem dX2_addTo_5 : decode cX2_addTo 5 = .ok (.invokestatic 67, 3) := by decide +kernel
theorem dX2_addTo_8 : decode cX2_addTo 8 = .ok (.lstore_n 1, 1) := by decide +kernel
theorem dX2_addTo_9 : decode cX2_addTo 9 = .ok (.iconst 0, 1) := by decide +kernel
theorem dX2_addTo_10 : decode cX2_addTo 10 = .ok (.istore_n 3, 1) := by decide +kernel
theorem dX2_addTo_11 : decode cX2_addTo 11 = .ok (.iload_n 3, 1) := by decide +kernel
theorem dX2_addTo_12 : decode cX2_addTo 12 = .ok (.aload_n 0, 1) := by decide +kernel
theorem dX2_addTo_13 : decode cX2_addTo 13 = .ok (.getfield 18, 3) := by decide +kernel
theorem dX2_addTo_16 : decode cX2_addTo 16 = .ok (.if_icmp .ge 29, 3) := by decide +kernel
theorem dX2_addTo_19 : decode cX2_addTo 19 = .ok (.lload_n 1, 1) := by decide +kernel
theorem dX2_addTo_20 : decode cX2_addTo 20 = .ok (.aload_n 0, 1) := by decide +kernel
theorem dX2_addTo_21 : decode cX2_addTo 21 = .ok (.getfield 9, 3) := by decide +kernel
theorem dX2_addTo_24 : decode cX2_addTo 24 = .ok (.iload_n 3, 1) := by decide +kernel
theorem dX2_addTo_25 : decode cX2_addTo 25 = .ok (.iaload, 1) := by decide +kernel
theorem dX2_addTo_26 : decode cX2_addTo 26 = .ok (.invokestatic 67, 3) := by decide +kernel
theorem dX2_addTo_29 : decode cX2_addTo 29 = .ok (.aload_n 0, 1) := by decide +kernel
theorem dX2_addTo_30 : decode cX2_addTo 30 = .ok (.getfield 15, 3) := by decide +kernel
theorem dX2_addTo_33 : decode cX2_addTo 33 = .ok (.iload_n 3, 1) := by decide +kernel
theorem dX2_addTo_34 : decode cX2_addTo 34 = .ok (.iaload, 1) := by decide +kernel
theorem dX2_addTo_35 : decode cX2_addTo 35 = .ok (.invokestatic 67, 3) := by decide +kernel
theorem dX2_addTo_38 : decode cX2_addTo 38 = .ok (.lstore_n 1, 1) := by decide +kernel
theorem dX2_addTo_39 : decode cX2_addTo 39 = .ok (.iinc 3 1, 3) := by decide +kernel
theorem dX2_addTo_42 : decode cX2_addTo 42 = .ok (.goto (-31), 3) := by decide +kernel
theorem dX2_addTo_45 : decode cX2_addTo 45 = .ok (.lload_n 1, 1) := by decide +kernel
theorem dX2_addTo_46 : decode cX2_addTo 46 = .ok (.lreturn, 1) := by decide +kernel
