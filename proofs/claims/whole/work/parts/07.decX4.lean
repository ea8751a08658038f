theorem dX4_init_0 : decode cX4_init 0 = .ok (.aload_n 0, 1) := by decide +kernel
theorem dX4_init_1 : decode cX4_init 1 = .ok (.invokespecial 3, 3) := by decide +kernel
theorem dX4_init_4 : decode cX4_init 4 = .ok (.aload_n 0, 1) := by decide +kernel
theorem dX4_init_5 : decode cX4_init 5 = .ok (.iconst 3, 1) := by decide +kernel
theorem dX4_init_6 : decode cX4_init 6 = .ok (.anewarray 9, 3) := by decide +kernel
theorem dX4_init_9 : decode cX4_init 9 = .ok (.putfield 11, 3) := by decide +kernel
theorem dX4_init_12 : decode cX4_init 12 = .ok (.aload_n 0, 1) := by decide +kernel
theorem dX4_init_13 : decode cX4_init 13 = .ok (.iconst 4, 1) := by decide +kernel
theorem dX4_init_14 : decode cX4_init 14 = .ok (.anewarray 15, 3) := by decide +kernel
theorem dX4_init_17 : decode cX4_init 17 = .ok (.putfield 17, 3) := by decide +kernel
theorem dX4_init_20 : decode cX4_init 20 = .ok (.aload_n 0, 1) := by decide +kernel
theorem dX4_init_21 : decode cX4_init 21 = .ok (.iconst 3, 1) := by decide +kernel
theorem dX4_init_22 : decode cX4_init 22 = .ok (.anewarray 21, 3) := by decide +kernel
theorem dX4_init_25 : decode cX4_init 25 = .ok (.putfield 23, 3) := by decide +kernel
theorem dX4_init_28 : decode cX4_init 28 = .ok (.aload_n 0, 1) := by decide +kernel
theorem dX4_init_29 : decode cX4_init 29 = .ok (.new 27, 3) := by decide +kernel
theorem dX4_init_32 : decode cX4_init 32 = .ok (.dup, 1) := by decide +kernel
theorem dX4_init_33 : decode cX4_init 33 = .ok (.invokespecial 29, 3) := by decide +kernel
theorem dX4_init_36 : decode cX4_init 36 = .ok (.putfield 30, 3) := by decide +kernel
theorem dX4_init_39 : decode cX4_init 39 = .ok (.aload_n 0, 1) := by decide +kernel
theorem dX4_init_40 : decode cX4_init 40 = .ok (.bipush 60, 2) := by decide +kernel
theorem dX4_init_42 : decode cX4_init 42 = .ok (.newarray .int, 2) := by decide +kernel
theorem dX4_init_44 : decode cX4_init 44 = .ok (.putfield 34, 3) := by decide +kernel
theorem dX4_init_47 : decode cX4_init 47 = .ok (.iconst 0, 1) := by decide +kernel
theorem dX4_init_48 : decode cX4_init 48 = .ok (.istore_n 1, 1) := by decide +kernel
theorem dX4_init_49 : decode cX4_init 49 = .ok (.iload_n 1, 1) := by decide +kernel
theorem dX4_init_50 : decode cX4_init 50 = .ok (.aload_n 0, 1) := by decide +kernel
theorem dX4_init_51 : decode cX4_init 51 = .ok (.getfield 11, 3) := by decide +kernel
theorem dX4_init_54 : decode cX4_init 54 = .ok (.arraylength, 1) := by decide +kernel
theorem dX4_init_55 : decode cX4_init 55 = .ok (.if_icmp .ge 22, 3) := by decide +kernel
theorem dX4_init_58 : decode cX4_init 58 = .ok (.aload_n 0, 1) := by decide +kernel
theorem dX4_init_59 : decode cX4_init 59 = .ok (.getfield 11, 3) := by decide +kernel
theorem dX4_init_62 : decode cX4_init 62 = .ok (.iload_n 1, 1) := by decide +kernel
theorem dX4_init_63 : decode cX4_init 63 = .ok (.new 9, 3) := by decide +kernel
theorem dX4_init_66 : decode cX4_init 66 = .ok (.dup, 1) := by decide +kernel
theorem dX4_init_67 : decode cX4_init 67 = .ok (.invokespecial 38, 3) := by decide +kernel
theorem dX4_init_70 : decode cX4_init 70 = .ok (.aastore, 1) := by decide +kernel
theorem dX4_init_71 : decode cX4_init 71 = .ok (.iinc 1 1, 3) := by decide +kernel
theorem dX4_init_74 : decode cX4_init 74 = .ok (.goto (-25), 3) := by decide +kernel
theorem dX4_init_77 : decode cX4_init 77 = .ok (.iconst 0, 1) := by decide +kernel
theorem dX4_init_78 : decode cX4_init 78 = .ok (.istore_n 1, 1) := by decide +kernel
theorem dX4_init_79 : decode cX4_init 79 = .ok (.iload_n 1, 1) := by decide +kernel
theorem dX4_init_80 : decode cX4_init 80 = .ok (.aload_n 0, 1) := by decide +kernel
theorem dX4_init_81 : decode cX4_init 81 = .ok (.getfield 17, 3) := by decide +kernel
theorem dX4_init_84 : decode cX4_init 84 = .ok (.arraylength, 1) := by decide +kernel
theorem dX4_init_85 : decode cX4_init 85 = .ok (.if_icmp .ge 22, 3) := by decide +kernel
theorem dX4_init_88 : decode cX4_init 88 = .ok (.aload_n 0, 1) := by decide +kernel
theorem dX4_init_89 : decode cX4_init 89 = .ok (.getfield 17, 3) := by decide +kernel
theorem dX4_init_92 : decode cX4_init 92 = .ok (.iload_n 1, 1) := by decide +kernel
theorem dX4_init_93 : decode cX4_init 93 = .ok (.new 15, 3) := by decide +kernel
theorem dX4_init_96 : decode cX4_init 96 = .ok (.dup, 1) := by decide +kernel
theorem dX4_init_97 : decode cX4_init 97 = .ok (.invokespecial 39, 3) := by decide +kernel
theorem dX4_init_100 : decode cX4_init 100 = .ok (.aastore, 1) := by decide +kernel
theorem dX4_init_101 : decode cX4_init 101 = .ok (.iinc 1 1, 3) := by decide +kernel
theorem dX4_init_104 : decode cX4_init 104 = .ok (.goto (-25), 3) := by decide +kernel
theorem dX4_init_107 : decode cX4_init 107 = .ok (.iconst 0, 1) := by decide +kernel
theorem dX4_init_108 : decode cX4_init 108 = .ok (.istore_n 1, 1) := by decide +kernel
theorem dX4_init_109 : decode cX4_init 109 = .ok (.iload_n 1, 1) := by decide +kernel
theorem dX4_init_110 : decode cX4_init 110 = .ok (.aload_n 0, 1) := by decide +kernel
theorem dX4_init_111 : decode cX4_init 111 = .ok (.getfield 23, 3) := by decide +kernel
theorem dX4_init_114 : decode cX4_init 114 = .ok (.arraylength, 1) := by decide +kernel
theorem dX4_init_115 : decode cX4_init 115 = .ok (.if_icmp .ge 22, 3) := by decide +kernel
theorem dX4_init_118 : decode cX4_init 118 = .ok (.aload_n 0, 1) := by decide +kernel
theorem dX4_init_119 : decode cX4_init 119 = .ok (.getfield 23, 3) := by decide +kernel
theorem dX4_init_122 : decode cX4_init 122 = .ok (.iload_n 1, 1) := by decide +kernel
theorem dX4_init_123 : decode cX4_init 123 = .ok (.new 21, 3) := by decide +kernel
theorem dX4_init_126 : decode cX4_init 126 = .ok (.dup, 1) := by decide +kernel
theorem dX4_init_127 : decode cX4_init 127 = .ok (.invokespecial 40, 3) := by decide +kernel
theorem dX4_init_130 : decode cX4_init 130 = .ok (.aastore, 1) := by decide +kernel
theorem dX4_init_131 : decode cX4_init 131 = .ok (.iinc 1 1, 3) := by decide +kernel
theorem dX4_init_134 : decode cX4_init 134 = .ok (.goto (-25), 3) := by decide +kernel
theorem dX4_init_137 : decode cX4_init 137 = .ok (.return_, 1) := by decide +kernel
theorem dX4_put_0 : decode cX4_put 0 = .ok (.aload_n 0, 1) := by decide +kernel
theorem dX4_put_1 : decode cX4_put 1 = .ok (.iload_n 1, 1) := by decide +kernel
theorem dX4_put_2 : decode cX4_put 2 = .ok (.invokevirtual 41, 3) := by decide +kernel
theorem dX4_put_5 : decode cX4_put 5 = .ok (.astore 4, 2) := by decide +kernel
theorem dX4_put_7 : decode cX4_put 7 = .ok (.aload 4, 2) := by decide +kernel
theorem dX4_put_9 : decode cX4_put 9 = .ok (.iload_n 2, 1) := by decide +kernel
theorem dX4_put_10 : decode cX4_put 10 = .ok (.iload_n 3, 1) := by decide +kernel
theorem dX4_put_11 : decode cX4_put 11 = .ok (.invokestatic 45, 3) := by decide +kernel
theorem dX4_put_14 : decode cX4_put 14 = .ok (.aload 4, 2) := by decide +kernel
theorem dX4_put_16 : decode cX4_put 16 = .ok (.getfield 49, 3) := by decide +kernel
theorem dX4_put_19 : decode cX4_put 19 = .ok (.ireturn, 1) := by decide +kernel
theorem dX4_value_0 : decode cX4_value 0 = .ok (.aload_n 0, 1) := by decide +kernel
theorem dX4_value_1 : decode cX4_value 1 = .ok (.iload_n 1, 1) := by decide +kernel
theorem dX4_value_2 : decode cX4_value 2 = .ok (.invokevirtual 41, 3) := by decide +kernel
theorem dX4_value_5 : decode cX4_value 5 = .ok (.astore_n 3, 1) := by decide +kernel
theorem dX4_value_6 : decode cX4_value 6 = .ok (.aload_n 3, 1) := by decide +kernel
theorem dX4_value_7 : decode cX4_value 7 = .ok (.iload_n 2, 1) := by decide +kernel
theorem dX4_value_8 : decode cX4_value 8 = .ok (.invokevirtual 53, 3) := by decide +kernel
theorem dX4_value_11 : decode cX4_value 11 = .ok (.istore 4, 2) := by decide +kernel
theorem dX4_value_13 : decode cX4_value 13 = .ok (.iload 4, 2) := by decide +kernel
theorem dX4_value_15 : decode cX4_value 15 = .ok (.ifCond .ge 13, 3) := by decide +kernel
theorem dX4_value_18 : decode cX4_value 18 = .ok (.new 57, 3) := by decide +kernel
theorem dX4_value_21 : decode cX4_value 21 = .ok (.dup, 1) := by decide +kernel
theorem dX4_value_22 : decode cX4_value 22 = .ok (.ldc 59, 2) := by decide +kernel
theorem dX4_value_24 : decode cX4_value 24 = .ok (.invokespecial 61, 3) := by decide +kernel
theorem dX4_value_27 : decode cX4_value 27 = .ok (.athrow, 1) := by decide +kernel
theorem dX4_value_28 : decode cX4_value 28 = .ok (.aload_n 3, 1) := by decide +kernel
theorem dX4_value_29 : decode cX4_value 29 = .ok (.getfield 64, 3) := by decide +kernel
theorem dX4_value_32 : decode cX4_value 32 = .ok (.iload 4, 2) := by decide +kernel
theorem dX4_value_34 : decode cX4_value 34 = .ok (.iaload, 1) := by decide +kernel
theorem dX4_value_35 : decode cX4_value 35 = .ok (.ireturn, 1) := by decide +kernel
theorem dX4_remove_0 : decode cX4_remove 0 = .ok (.aload_n 0, 1) := by decide +kernel
theorem dX4_remove_1 : decode cX4_remove 1 = .ok (.iload_n 1, 1) := by decide +kernel
theorem dX4_remove_2 : decode cX4_remove 2 = .ok (.invokevirtual 41, 3) := by decide +kernel
theorem dX4_remove_5 : decode cX4_remove 5 = .ok (.astore_n 3, 1) := by decide +kernel
theorem dX4_remove_6 : decode cX4_remove 6 = .ok (.aload_n 3, 1) := by decide +kernel
theorem dX4_remove_7 : decode cX4_remove 7 = .ok (.iload_n 2, 1) := by decide +kernel
theorem dX4_remove_8 : decode cX4_remove 8 = .ok (.invokevirtual 67, 3) := by decide +kernel
theorem dX4_remove_11 : decode cX4_remove 11 = .ok (.pop, 1) := by decide +kernel
theorem dX4_remove_12 : decode cX4_remove 12 = .ok (.aload_n 3, 1) := by decide +kernel
theorem dX4_remove_13 : decode cX4_remove 13 = .ok (.getfield 49, 3) := by decide +kernel
theorem dX4_remove_16 : decode cX4_remove 16 = .ok (.ireturn, 1) := by decide +kernel
theorem dX4_near_0 : decode cX4_near 0 = .ok (.aload_n 0, 1) := by decide +kernel
theorem dX4_near_1 : decode cX4_near 1 = .ok (.iload_n 1, 1) := by decide +kernel
theorem dX4_near_2 : decode cX4_near 2 = .ok (.invokevirtual 41, 3) := by decide +kernel
theorem dX4_near_5 : decode cX4_near 5 = .ok (.astore 4, 2) := by decide +kernel
theorem dX4_near_7 : decode cX4_near 7 = .ok (.iload_n 3, 1) := by decide +kernel
theorem dX4_near_8 : decode cX4_near 8 = .ok (.invokestatic 71, 3) := by decide +kernel
theorem dX4_near_11 : decode cX4_near 11 = .ok (.ifCond .ne 13, 3) := by decide +kernel
theorem dX4_near_14 : decode cX4_near 14 = .ok (.new 75, 3) := by decide +kernel
theorem dX4_near_17 : decode cX4_near 17 = .ok (.dup, 1) := by decide +kernel
theorem dX4_near_18 : decode cX4_near 18 = .ok (.ldc 77, 2) := by decide +kernel
theorem dX4_near_20 : decode cX4_near 20 = .ok (.invokespecial 79, 3) := by decide +kernel
theorem dX4_near_23 : decode cX4_near 23 = .ok (.athrow, 1) := by decide +kernel
theorem dX4_near_24 : decode cX4_near 24 = .ok (.aload 4, 2) := by decide +kernel
theorem dX4_near_26 : decode cX4_near 26 = .ok (.iload_n 2, 1) := by decide +kernel
theorem dX4_near_27 : decode cX4_near 27 = .ok (.iload_n 3, 1) := by decide +kernel
theorem dX4_near_28 : decode cX4_near 28 = .ok (.iconst 0, 1) := by decide +kernel
theorem dX4_near_29 : decode cX4_near 29 = .ok (.aload 4, 2) := by decide +kernel
theorem dX4_near_31 : decode cX4_near 31 = .ok (.getfield 49, 3) := by decide +kernel
theorem dX4_near_34 : decode cX4_near 34 = .ok (.invokevirtual 80, 3) := by decide +kernel
theorem dX4_near_37 : decode cX4_near 37 = .ok (.istore 5, 2) := by decide +kernel
theorem dX4_near_39 : decode cX4_near 39 = .ok (.iload 5, 2) := by decide +kernel
theorem dX4_near_41 : decode cX4_near 41 = .ok (.ifCond .ge 13, 3) := by decide +kernel
theorem dX4_near_44 : decode cX4_near 44 = .ok (.new 57, 3) := by decide +kernel
theorem dX4_near_47 : decode cX4_near 47 = .ok (.dup, 1) := by decide +kernel
theorem dX4_near_48 : decode cX4_near 48 = .ok (.ldc 84, 2) := by decide +kernel
theorem dX4_near_50 : decode cX4_near 50 = .ok (.invokespecial 61, 3) := by decide +kernel
theorem dX4_near_53 : decode cX4_near 53 = .ok (.athrow, 1) := by decide +kernel
theorem dX4_near_54 : decode cX4_near 54 = .ok (.aload 4, 2) := by decide +kernel
theorem dX4_near_56 : decode cX4_near 56 = .ok (.getfield 86, 3) := by decide +kernel
theorem dX4_near_59 : decode cX4_near 59 = .ok (.iload 5, 2) := by decide +kernel
theorem dX4_near_61 : decode cX4_near 61 = .ok (.iaload, 1) := by decide +kernel
theorem dX4_near_62 : decode cX4_near 62 = .ok (.ireturn, 1) := by decide +kernel
theorem dX4_end_0 : decode cX4_end 0 = .ok (.aload_n 0, 1) := by decide +kernel
theorem dX4_end_1 : decode cX4_end 1 = .ok (.iload_n 1, 1) := by decide +kernel
theorem dX4_end_2 : decode cX4_end 2 = .ok (.invokevirtual 41, 3) := by decide +kernel
theorem dX4_end_5 : decode cX4_end 5 = .ok (.astore_n 3, 1) := by decide +kernel
theorem dX4_end_6 : decode cX4_end 6 = .ok (.aload_n 3, 1) := by decide +kernel
theorem dX4_end_7 : decode cX4_end 7 = .ok (.getfield 86, 3) := by decide +kernel
theorem dX4_end_10 : decode cX4_end 10 = .ok (.iconst 0, 1) := by decide +kernel
theorem dX4_end_11 : decode cX4_end 11 = .ok (.aload_n 3, 1) := by decide +kernel
theorem dX4_end_12 : decode cX4_end 12 = .ok (.getfield 49, 3) := by decide +kernel
theorem dX4_end_15 : decode cX4_end 15 = .ok (.iload_n 2, 1) := by decide +kernel
theorem dX4_end_16 : decode cX4_end 16 = .ok (.invokestatic 89, 3) := by decide +kernel
theorem dX4_end_19 : decode cX4_end 19 = .ok (.iaload, 1) := by decide +kernel
theorem dX4_end_20 : decode cX4_end 20 = .ok (.ireturn, 1) := by decide +kernel
theorem dX4_poll_0 : decode cX4_poll 0 = .ok (.aload_n 0, 1) := by decide +kernel
theorem dX4_poll_1 : decode cX4_poll 1 = .ok (.iload_n 1, 1) := by decide +kernel
theorem dX4_poll_2 : decode cX4_poll 2 = .ok (.invokevirtual 41, 3) := by decide +kernel
theorem dX4_poll_5 : decode cX4_poll 5 = .ok (.astore_n 3, 1) := by decide +kernel
theorem dX4_poll_6 : decode cX4_poll 6 = .ok (.aload_n 0, 1) := by decide +kernel
theorem dX4_poll_7 : decode cX4_poll 7 = .ok (.aload_n 3, 1) := by decide +kernel
theorem dX4_poll_8 : decode cX4_poll 8 = .ok (.iconst 0, 1) := by decide +kernel
theorem dX4_poll_9 : decode cX4_poll 9 = .ok (.aload_n 3, 1) := by decide +kernel
theorem dX4_poll_10 : decode cX4_poll 10 = .ok (.getfield 49, 3) := by decide +kernel
theorem dX4_poll_13 : decode cX4_poll 13 = .ok (.iload_n 2, 1) := by decide +kernel
theorem dX4_poll_14 : decode cX4_poll 14 = .ok (.invokestatic 89, 3) := by decide +kernel
theorem dX4_poll_17 : decode cX4_poll 17 = .ok (.invokevirtual 93, 3) := by decide +kernel
theorem dX4_poll_20 : decode cX4_poll 20 = .ok (.ireturn, 1) := by decide +kernel
theorem dX4_polled_0 : decode cX4_polled 0 = .ok (.aload_n 0, 1) := by decide +kernel
theorem dX4_polled_1 : decode cX4_polled 1 = .ok (.getfield 97, 3) := by decide +kernel
theorem dX4_polled_4 : decode cX4_polled 4 = .ok (.ifCond .ne 13, 3) := by decide +kernel
theorem dX4_polled_7 : decode cX4_polled 7 = .ok (.new 57, 3) := by decide +kernel
theorem dX4_polled_10 : decode cX4_polled 10 = .ok (.dup, 1) := by decide +kernel
theorem dX4_polled_11 : decode cX4_polled 11 = .ok (.ldc 101, 2) := by decide +kernel
theorem dX4_polled_13 : decode cX4_polled 13 = .ok (.invokespecial 61, 3) := by decide +kernel
theorem dX4_polled_16 : decode cX4_polled 16 = .ok (.athrow, 1) := by decide +kernel
theorem dX4_polled_17 : decode cX4_polled 17 = .ok (.aload_n 0, 1) := by decide +kernel
theorem dX4_polled_18 : decode cX4_polled 18 = .ok (.getfield 103, 3) := by decide +kernel
theorem dX4_polled_21 : decode cX4_polled 21 = .ok (.ireturn, 1) := by decide +kernel
theorem dX4_drain_0 : decode cX4_drain 0 = .ok (.aload_n 0, 1) := by decide +kernel
theorem dX4_drain_1 : decode cX4_drain 1 = .ok (.iload_n 1, 1) := by decide +kernel
theorem dX4_drain_2 : decode cX4_drain 2 = .ok (.invokevirtual 41, 3) := by decide +kernel
theorem dX4_drain_5 : decode cX4_drain 5 = .ok (.astore_n 3, 1) := by decide +kernel
theorem dX4_drain_6 : decode cX4_drain 6 = .ok (.iconst 0, 1) := by decide +kernel
theorem dX4_drain_7 : decode cX4_drain 7 = .ok (.istore 4, 2) := by decide +kernel
theorem dX4_drain_9 : decode cX4_drain 9 = .ok (.iload 4, 2) := by decide +kernel
theorem dX4_drain_11 : decode cX4_drain 11 = .ok (.aload_n 0, 1) := by decide +kernel
theorem dX4_drain_12 : decode cX4_drain 12 = .ok (.getfield 34, 3) := by decide +kernel
theorem dX4_drain_15 : decode cX4_drain 15 = .ok (.arraylength, 1) := by decide +kernel
theorem dX4_drain_16 : decode cX4_drain 16 = .ok (.if_icmp .ge 42, 3) := by decide +kernel
theorem dX4_drain_19 : decode cX4_drain 19 = .ok (.aload_n 3, 1) := by decide +kernel
theorem dX4_drain_20 : decode cX4_drain 20 = .ok (.getfield 49, 3) := by decide +kernel
theorem dX4_drain_23 : decode cX4_drain 23 = .ok (.ifCond .le 35, 3) := by decide +kernel
theorem dX4_drain_26 : decode cX4_drain 26 = .ok (.aload_n 0, 1) := by decide +kernel
theorem dX4_drain_27 : decode cX4_drain 27 = .ok (.getfield 34, 3) := by decide +kernel
theorem dX4_drain_30 : decode cX4_drain 30 = .ok (.iload 4, 2) := by decide +kernel
theorem dX4_drain_32 : decode cX4_drain 32 = .ok (.aload_n 0, 1) := by decide +kernel
theorem dX4_drain_33 : decode cX4_drain 33 = .ok (.aload_n 3, 1) := by decide +kernel
theorem dX4_drain_34 : decode cX4_drain 34 = .ok (.iload_n 2, 1) := by decide +kernel
theorem dX4_drain_35 : decode cX4_drain 35 = .ok (.ifCond .eq 12, 3) := by decide +kernel
theorem dX4_drain_38 : decode cX4_drain 38 = .ok (.aload_n 3, 1) := by decide +kernel
theorem dX4_drain_39 : decode cX4_drain 39 = .ok (.getfield 49, 3) := by decide +kernel
theorem dX4_drain_42 : decode cX4_drain 42 = .ok (.iconst 1, 1) := by decide +kernel
theorem dX4_drain_43 : decode cX4_drain 43 = .ok (.isub, 1) := by decide +kernel
theorem dX4_drain_44 : decode cX4_drain 44 = .ok (.goto 4, 3) := by decide +kernel
theorem dX4_drain_47 : decode cX4_drain 47 = .ok (.iconst 0, 1) := by decide +kernel
theorem dX4_drain_48 : decode cX4_drain 48 = .ok (.invokevirtual 93, 3) := by decide +kernel
theorem dX4_drain_51 : decode cX4_drain 51 = .ok (.iastore, 1) := by decide +kernel
theorem dX4_drain_52 : decode cX4_drain 52 = .ok (.iinc 4 1, 3) := by decide +kernel
theorem dX4_drain_55 : decode cX4_drain 55 = .ok (.goto (-46), 3) := by decide +kernel
theorem dX4_drain_58 : decode cX4_drain 58 = .ok (.aload_n 0, 1) := by decide +kernel
theorem dX4_drain_59 : decode cX4_drain 59 = .ok (.iload 4, 2) := by decide +kernel
theorem dX4_drain_61 : decode cX4_drain 61 = .ok (.putfield 106, 3) := by decide +kernel
theorem dX4_drain_64 : decode cX4_drain 64 = .ok (.iload 4, 2) := by decide +kernel
theorem dX4_drain_66 : decode cX4_drain 66 = .ok (.ireturn, 1) := by decide +kernel
theorem dX4_drained_0 : decode cX4_drained 0 = .ok (.iload_n 1, 1) := by decide +kernel
theorem dX4_drained_1 : decode cX4_drained 1 = .ok (.ifCond .lt 11, 3) := by decide +kernel
theorem dX4_drained_4 : decode cX4_drained 4 = .ok (.iload_n 1, 1) := by decide +kernel
theorem dX4_drained_5 : decode cX4_drained 5 = .ok (.aload_n 0, 1) := by decide +kernel
theorem dX4_drained_6 : decode cX4_drained 6 = .ok (.getfield 106, 3) := by decide +kernel
theorem dX4_drained_9 : decode cX4_drained 9 = .ok (.if_icmp .lt 13, 3) := by decide +kernel
theorem dX4_drained_12 : decode cX4_drained 12 = .ok (.new 109, 3) := by decide +kernel
theorem dX4_drained_15 : decode cX4_drained 15 = .ok (.dup, 1) := by decide +kernel
theorem dX4_drained_16 : decode cX4_drained 16 = .ok (.ldc 111, 2) := by decide +kernel
theorem dX4_drained_18 : decode cX4_drained 18 = .ok (.invokespecial 113, 3) := by decide +kernel
theorem dX4_drained_21 : decode cX4_drained 21 = .ok (.athrow, 1) := by decide +kernel
theorem dX4_drained_22 : decode cX4_drained 22 = .ok (.aload_n 0, 1) := by decide +kernel
theorem dX4_drained_23 : decode cX4_drained 23 = .ok (.getfield 34, 3) := by decide +kernel
theorem dX4_drained_26 : decode cX4_drained 26 = .ok (.iload_n 1, 1) := by decide +kernel
theorem dX4_drained_27 : decode cX4_drained 27 = .ok (.iaload, 1) := by decide +kernel
theorem dX4_drained_28 : decode cX4_drained 28 = .ok (.ireturn, 1) := by decide +kernel
theorem dX4_size_0 : decode cX4_size 0 = .ok (.aload_n 0, 1) := by decide +kernel
theorem dX4_size_1 : decode cX4_size 1 = .ok (.iload_n 1, 1) := by decide +kernel
theorem dX4_size_2 : decode cX4_size 2 = .ok (.invokevirtual 41, 3) := by decide +kernel
theorem dX4_size_5 : decode cX4_size 5 = .ok (.getfield 49, 3) := by decide +kernel
theorem dX4_size_8 : decode cX4_size 8 = .ok (.ireturn, 1) := by decide +kernel
theorem dX4_keyAt_0 : decode cX4_keyAt 0 = .ok (.aload_n 0, 1) := by decide +kernel
theorem dX4_keyAt_1 : decode cX4_keyAt 1 = .ok (.iload_n 1, 1) := by decide +kernel
theorem dX4_keyAt_2 : decode cX4_keyAt 2 = .ok (.invokevirtual 41, 3) := by decide +kernel
theorem dX4_keyAt_5 : decode cX4_keyAt 5 = .ok (.astore 4, 2) := by decide +kernel
theorem dX4_keyAt_7 : decode cX4_keyAt 7 = .ok (.iload_n 2, 1) := by decide +kernel
theorem dX4_keyAt_8 : decode cX4_keyAt 8 = .ok (.ifCond .lt 12, 3) := by decide +kernel
theorem dX4_keyAt_11 : decode cX4_keyAt 11 = .ok (.iload_n 2, 1) := by decide +kernel
theorem dX4_keyAt_12 : decode cX4_keyAt 12 = .ok (.aload 4, 2) := by decide +kernel
theorem dX4_keyAt_14 : decode cX4_keyAt 14 = .ok (.getfield 49, 3) := by decide +kernel
theorem dX4_keyAt_17 : decode cX4_keyAt 17 = .ok (.if_icmp .lt 13, 3) := by decide +kernel
theorem dX4_keyAt_20 : decode cX4_keyAt 20 = .ok (.new 109, 3) := by decide +kernel
theorem dX4_keyAt_23 : decode cX4_keyAt 23 = .ok (.dup, 1) := by decide +kernel
theorem dX4_keyAt_24 : decode cX4_keyAt 24 = .ok (.ldc 114, 2) := by decide +kernel
theorem dX4_keyAt_26 : decode cX4_keyAt 26 = .ok (.invokespecial 113, 3) := by decide +kernel
theorem dX4_keyAt_29 : decode cX4_keyAt 29 = .ok (.athrow, 1) := by decide +kernel
theorem dX4_keyAt_30 : decode cX4_keyAt 30 = .ok (.aload 4, 2) := by decide +kernel
theorem dX4_keyAt_32 : decode cX4_keyAt 32 = .ok (.getfield 86, 3) := by decide +kernel
theorem dX4_keyAt_35 : decode cX4_keyAt 35 = .ok (.iload_n 3, 1) := by decide +kernel
theorem dX4_keyAt_36 : decode cX4_keyAt 36 = .ok (.ifCond .eq 15, 3) := by decide +kernel
theorem dX4_keyAt_39 : decode cX4_keyAt 39 = .ok (.aload 4, 2) := by decide +kernel
theorem dX4_keyAt_41 : decode cX4_keyAt 41 = .ok (.getfield 49, 3) := by decide +kernel
theorem dX4_keyAt_44 : decode cX4_keyAt 44 = .ok (.iconst 1, 1) := by decide +kernel
theorem dX4_keyAt_45 : decode cX4_keyAt 45 = .ok (.isub, 1) := by decide +kernel
theorem dX4_keyAt_46 : decode cX4_keyAt 46 = .ok (.iload_n 2, 1) := by decide +kernel
theorem dX4_keyAt_47 : decode cX4_keyAt 47 = .ok (.isub, 1) := by decide +kernel
theorem dX4_keyAt_48 : decode cX4_keyAt 48 = .ok (.goto 4, 3) := by decide +kernel
theorem dX4_keyAt_51 : decode cX4_keyAt 51 = .ok (.iload_n 2, 1) := by decide +kernel
theorem dX4_keyAt_52 : decode cX4_keyAt 52 = .ok (.iaload, 1) := by decide +kernel
theorem dX4_keyAt_53 : decode cX4_keyAt 53 = .ok (.ireturn, 1) := by decide +kernel
theorem dX4_mark_0 : decode cX4_mark 0 = .ok (.aload_n 0, 1) := by decide +kernel
theorem dX4_mark_1 : decode cX4_mark 1 = .ok (.iload_n 1, 1) := by decide +kernel
theorem dX4_mark_2 : decode cX4_mark 2 = .ok (.invokevirtual 41, 3) := by decide +kernel
theorem dX4_mark_5 : decode cX4_mark 5 = .ok (.astore_n 2, 1) := by decide +kernel
theorem dX4_mark_6 : decode cX4_mark 6 = .ok (.iconst 0, 1) := by decide +kernel
theorem dX4_mark_7 : decode cX4_mark 7 = .ok (.istore_n 3, 1) := by decide +kernel
theorem dX4_mark_8 : decode cX4_mark 8 = .ok (.iconst 0, 1) := by decide +kernel
theorem dX4_mark_9 : decode cX4_mark 9 = .ok (.istore 4, 2) := by decide +kernel
theorem dX4_mark_11 : decode cX4_mark 11 = .ok (.iload 4, 2) := by decide +kernel
theorem dX4_mark_13 : decode cX4_mark 13 = .ok (.aload_n 2, 1) := by decide +kernel
theorem dX4_mark_14 : decode cX4_mark 14 = .ok (.getfield 49, 3) := by decide +kernel
theorem dX4_mark_17 : decode cX4_mark 17 = .ok (.if_icmp .ge 27, 3) := by decide +kernel
theorem dX4_mark_20 : decode cX4_mark 20 = .ok (.iload_n 3, 1) := by decide +kernel
theorem dX4_mark_21 : decode cX4_mark 21 = .ok (.aload_n 2, 1) := by decide +kernel
theorem dX4_mark_22 : decode cX4_mark 22 = .ok (.getfield 86, 3) := by decide +kernel
theorem dX4_mark_25 : decode cX4_mark 25 = .ok (.iload 4, 2) := by decide +kernel
theorem dX4_mark_27 : decode cX4_mark 27 = .ok (.iaload, 1) := by decide +kernel
theorem dX4_mark_28 : decode cX4_mark 28 = .ok (.aload_n 2, 1) := by decide +kernel
theorem dX4_mark_29 : decode cX4_mark 29 = .ok (.getfield 64, 3) := by decide +kernel
theorem dX4_mark_32 : decode cX4_mark 32 = .ok (.iload 4, 2) := by decide +kernel
theorem dX4_mark_34 : decode cX4_mark 34 = .ok (.iaload, 1) := by decide +kernel
theorem dX4_mark_35 : decode cX4_mark 35 = .ok (.ixor, 1) := by decide +kernel
theorem dX4_mark_36 : decode cX4_mark 36 = .ok (.iadd, 1) := by decide +kernel
theorem dX4_mark_37 : decode cX4_mark 37 = .ok (.istore_n 3, 1) := by decide +kernel
theorem dX4_mark_38 : decode cX4_mark 38 = .ok (.iinc 4 1, 3) := by decide +kernel
theorem dX4_mark_41 : decode cX4_mark 41 = .ok (.goto (-30), 3) := by decide +kernel
theorem dX4_mark_44 : decode cX4_mark 44 = .ok (.iload_n 3, 1) := by decide +kernel
theorem dX4_mark_45 : decode cX4_mark 45 = .ok (.ireturn, 1) := by decide +kernel
theorem dX4_isLike_0 : decode cX4_isLike 0 = .ok (.aload_n 0, 1) := by decide +kernel
theorem dX4_isLike_1 : decode cX4_isLike 1 = .ok (.iload_n 1, 1) := by decide +kernel
theorem dX4_isLike_2 : decode cX4_isLike 2 = .ok (.invokevirtual 41, 3) := by decide +kernel
theorem dX4_isLike_5 : decode cX4_isLike 5 = .ok (.astore_n 3, 1) := by decide +kernel
theorem dX4_isLike_6 : decode cX4_isLike 6 = .ok (.aload_n 3, 1) := by decide +kernel
theorem dX4_isLike_7 : decode cX4_isLike 7 = .ok (.aload_n 0, 1) := by decide +kernel
theorem dX4_isLike_8 : decode cX4_isLike 8 = .ok (.iload_n 2, 1) := by decide +kernel
theorem dX4_isLike_9 : decode cX4_isLike 9 = .ok (.invokevirtual 41, 3) := by decide +kernel
theorem dX4_isLike_12 : decode cX4_isLike 12 = .ok (.invokevirtual 116, 3) := by decide +kernel
theorem dX4_isLike_15 : decode cX4_isLike 15 = .ok (.ireturn, 1) := by decide +kernel
theorem dX4_open_0 : decode cX4_open 0 = .ok (.aload_n 0, 1) := by decide +kernel
theorem dX4_open_1 : decode cX4_open 1 = .ok (.iload_n 1, 1) := by decide +kernel
theorem dX4_open_2 : decode cX4_open 2 = .ok (.invokevirtual 120, 3) := by decide +kernel
theorem dX4_open_5 : decode cX4_open 5 = .ok (.astore 7, 2) := by decide +kernel
theorem dX4_open_7 : decode cX4_open 7 = .ok (.aload_n 0, 1) := by decide +kernel
theorem dX4_open_8 : decode cX4_open 8 = .ok (.iload_n 2, 1) := by decide +kernel
theorem dX4_open_9 : decode cX4_open 9 = .ok (.invokevirtual 41, 3) := by decide +kernel
theorem dX4_open_12 : decode cX4_open 12 = .ok (.astore 8, 2) := by decide +kernel
theorem dX4_open_14 : decode cX4_open 14 = .ok (.iload 5, 2) := by decide +kernel
theorem dX4_open_16 : decode cX4_open 16 = .ok (.iload_n 3, 1) := by decide +kernel
theorem dX4_open_17 : decode cX4_open 17 = .ok (.if_icmp .ge 13, 3) := by decide +kernel
theorem dX4_open_20 : decode cX4_open 20 = .ok (.new 75, 3) := by decide +kernel
theorem dX4_open_23 : decode cX4_open 23 = .ok (.dup, 1) := by decide +kernel
theorem dX4_open_24 : decode cX4_open 24 = .ok (.ldc 124, 2) := by decide +kernel
theorem dX4_open_26 : decode cX4_open 26 = .ok (.invokespecial 79, 3) := by decide +kernel
theorem dX4_open_29 : decode cX4_open 29 = .ok (.athrow, 1) := by decide +kernel
theorem dX4_open_30 : decode cX4_open 30 = .ok (.aload 7, 2) := by decide +kernel
theorem dX4_open_32 : decode cX4_open 32 = .ok (.aload 8, 2) := by decide +kernel
theorem dX4_open_34 : decode cX4_open 34 = .ok (.iload_n 3, 1) := by decide +kernel
theorem dX4_open_35 : decode cX4_open 35 = .ok (.iload 4, 2) := by decide +kernel
theorem dX4_open_37 : decode cX4_open 37 = .ok (.iload 5, 2) := by decide +kernel
theorem dX4_open_39 : decode cX4_open 39 = .ok (.iload 6, 2) := by decide +kernel
theorem dX4_open_41 : decode cX4_open 41 = .ok (.invokevirtual 126, 3) := by decide +kernel
theorem dX4_open_44 : decode cX4_open 44 = .ok (.aload 7, 2) := by decide +kernel
theorem dX4_open_46 : decode cX4_open 46 = .ok (.invokevirtual 130, 3) := by decide +kernel
theorem dX4_open_49 : decode cX4_open 49 = .ok (.ireturn, 1) := by decide +kernel
theorem dX4_cut_0 : decode cX4_cut 0 = .ok (.aload_n 0, 1) := by decide +kernel
theorem dX4_cut_1 : decode cX4_cut 1 = .ok (.iload_n 1, 1) := by decide +kernel
theorem dX4_cut_2 : decode cX4_cut 2 = .ok (.invokevirtual 120, 3) := by decide +kernel
theorem dX4_cut_5 : decode cX4_cut 5 = .ok (.astore 6, 2) := by decide +kernel
theorem dX4_cut_7 : decode cX4_cut 7 = .ok (.aload_n 0, 1) := by decide +kernel
theorem dX4_cut_8 : decode cX4_cut 8 = .ok (.iload_n 2, 1) := by decide +kernel
theorem dX4_cut_9 : decode cX4_cut 9 = .ok (.invokevirtual 120, 3) := by decide +kernel
theorem dX4_cut_12 : decode cX4_cut 12 = .ok (.astore 7, 2) := by decide +kernel
theorem dX4_cut_14 : decode cX4_cut 14 = .ok (.aload 7, 2) := by decide +kernel
theorem dX4_cut_16 : decode cX4_cut 16 = .ok (.invokestatic 134, 3) := by decide +kernel
theorem dX4_cut_19 : decode cX4_cut 19 = .ok (.aload 7, 2) := by decide +kernel
theorem dX4_cut_21 : decode cX4_cut 21 = .ok (.iload 4, 2) := by decide +kernel
theorem dX4_cut_23 : decode cX4_cut 23 = .ok (.invokevirtual 138, 3) := by decide +kernel
theorem dX4_cut_26 : decode cX4_cut 26 = .ok (.ifCond .ne 13, 3) := by decide +kernel
theorem dX4_cut_29 : decode cX4_cut 29 = .ok (.new 75, 3) := by decide +kernel
theorem dX4_cut_32 : decode cX4_cut 32 = .ok (.dup, 1) := by decide +kernel
theorem dX4_cut_33 : decode cX4_cut 33 = .ok (.ldc 141, 2) := by decide +kernel
theorem dX4_cut_35 : decode cX4_cut 35 = .ok (.invokespecial 79, 3) := by decide +kernel
theorem dX4_cut_38 : decode cX4_cut 38 = .ok (.athrow, 1) := by decide +kernel
theorem dX4_cut_39 : decode cX4_cut 39 = .ok (.aload 7, 2) := by decide +kernel
theorem dX4_cut_41 : decode cX4_cut 41 = .ok (.getfield 143, 3) := by decide +kernel
theorem dX4_cut_44 : decode cX4_cut 44 = .ok (.bipush 12, 2) := by decide +kernel
theorem dX4_cut_46 : decode cX4_cut 46 = .ok (.if_icmp .lt 13, 3) := by decide +kernel
theorem dX4_cut_49 : decode cX4_cut 49 = .ok (.new 146, 3) := by decide +kernel
theorem dX4_cut_52 : decode cX4_cut 52 = .ok (.dup, 1) := by decide +kernel
theorem dX4_cut_53 : decode cX4_cut 53 = .ok (.ldc 148, 2) := by decide +kernel
theorem dX4_cut_55 : decode cX4_cut 55 = .ok (.invokespecial 150, 3) := by decide +kernel
theorem dX4_cut_58 : decode cX4_cut 58 = .ok (.athrow, 1) := by decide +kernel
theorem dX4_cut_59 : decode cX4_cut 59 = .ok (.aload 6, 2) := by decide +kernel
theorem dX4_cut_61 : decode cX4_cut 61 = .ok (.aload 7, 2) := by decide +kernel
theorem dX4_cut_63 : decode cX4_cut 63 = .ok (.iload_n 3, 1) := by decide +kernel
theorem dX4_cut_64 : decode cX4_cut 64 = .ok (.iload 4, 2) := by decide +kernel
theorem dX4_cut_66 : decode cX4_cut 66 = .ok (.iload 5, 2) := by decide +kernel
theorem dX4_cut_68 : decode cX4_cut 68 = .ok (.invokevirtual 151, 3) := by decide +kernel
theorem dX4_cut_71 : decode cX4_cut 71 = .ok (.aload 6, 2) := by decide +kernel
theorem dX4_cut_73 : decode cX4_cut 73 = .ok (.invokevirtual 130, 3) := by decide +kernel
theorem dX4_cut_76 : decode cX4_cut 76 = .ok (.ireturn, 1) := by decide +kernel
theorem dX4_viewPut_0 : decode cX4_viewPut 0 = .ok (.aload_n 0, 1) := by decide +kernel
theorem dX4_viewPut_1 : decode cX4_viewPut 1 = .ok (.iload_n 1, 1) := by decide +kernel
theorem dX4_viewPut_2 : decode cX4_viewPut 2 = .ok (.invokevirtual 120, 3) := by decide +kernel
theorem dX4_viewPut_5 : decode cX4_viewPut 5 = .ok (.astore 4, 2) := by decide +kernel
theorem dX4_viewPut_7 : decode cX4_viewPut 7 = .ok (.aload 4, 2) := by decide +kernel
theorem dX4_viewPut_9 : decode cX4_viewPut 9 = .ok (.invokestatic 155, 3) := by decide +kernel
theorem dX4_viewPut_12 : decode cX4_viewPut 12 = .ok (.astore 5, 2) := by decide +kernel
theorem dX4_viewPut_14 : decode cX4_viewPut 14 = .ok (.aload 4, 2) := by decide +kernel
theorem dX4_viewPut_16 : decode cX4_viewPut 16 = .ok (.iload_n 2, 1) := by decide +kernel
theorem dX4_viewPut_17 : decode cX4_viewPut 17 = .ok (.invokevirtual 138, 3) := by decide +kernel
theorem dX4_viewPut_20 : decode cX4_viewPut 20 = .ok (.ifCond .ne 13, 3) := by decide +kernel
theorem dX4_viewPut_23 : decode cX4_viewPut 23 = .ok (.new 75, 3) := by decide +kernel
theorem dX4_viewPut_26 : decode cX4_viewPut 26 = .ok (.dup, 1) := by decide +kernel
theorem dX4_viewPut_27 : decode cX4_viewPut 27 = .ok (.ldc 159, 2) := by decide +kernel
theorem dX4_viewPut_29 : decode cX4_viewPut 29 = .ok (.invokespecial 79, 3) := by decide +kernel
theorem dX4_viewPut_32 : decode cX4_viewPut 32 = .ok (.athrow, 1) := by decide +kernel
theorem dX4_viewPut_33 : decode cX4_viewPut 33 = .ok (.aload 5, 2) := by decide +kernel
theorem dX4_viewPut_35 : decode cX4_viewPut 35 = .ok (.iload_n 2, 1) := by decide +kernel
theorem dX4_viewPut_36 : decode cX4_viewPut 36 = .ok (.iload_n 3, 1) := by decide +kernel
theorem dX4_viewPut_37 : decode cX4_viewPut 37 = .ok (.invokestatic 45, 3) := by decide +kernel
theorem dX4_viewPut_40 : decode cX4_viewPut 40 = .ok (.aload 4, 2) := by decide +kernel
theorem dX4_viewPut_42 : decode cX4_viewPut 42 = .ok (.invokevirtual 130, 3) := by decide +kernel
theorem dX4_viewPut_45 : decode cX4_viewPut 45 = .ok (.ireturn, 1) := by decide +kernel
theorem dX4_viewRemove_0 : decode cX4_viewRemove 0 = .ok (.aload_n 0, 1) := by decide +kernel
theorem dX4_viewRemove_1 : decode cX4_viewRemove 1 = .ok (.iload_n 1, 1) := by decide +kernel
theorem dX4_viewRemove_2 : decode cX4_viewRemove 2 = .ok (.invokevirtual 120, 3) := by decide +kernel
theorem dX4_viewRemove_5 : decode cX4_viewRemove 5 = .ok (.astore_n 3, 1) := by decide +kernel
theorem dX4_viewRemove_6 : decode cX4_viewRemove 6 = .ok (.aload_n 3, 1) := by decide +kernel
theorem dX4_viewRemove_7 : decode cX4_viewRemove 7 = .ok (.invokestatic 155, 3) := by decide +kernel
theorem dX4_viewRemove_10 : decode cX4_viewRemove 10 = .ok (.astore 4, 2) := by decide +kernel
theorem dX4_viewRemove_12 : decode cX4_viewRemove 12 = .ok (.aload_n 3, 1) := by decide +kernel
theorem dX4_viewRemove_13 : decode cX4_viewRemove 13 = .ok (.iload_n 2, 1) := by decide +kernel
theorem dX4_viewRemove_14 : decode cX4_viewRemove 14 = .ok (.invokevirtual 138, 3) := by decide +kernel
theorem dX4_viewRemove_17 : decode cX4_viewRemove 17 = .ok (.ifCond .eq 16, 3) := by decide +kernel
theorem dX4_viewRemove_20 : decode cX4_viewRemove 20 = .ok (.aload 4, 2) := by decide +kernel
theorem dX4_viewRemove_22 : decode cX4_viewRemove 22 = .ok (.iload_n 2, 1) := by decide +kernel
theorem dX4_viewRemove_23 : decode cX4_viewRemove 23 = .ok (.invokevirtual 67, 3) := by decide +kernel
theorem dX4_viewRemove_26 : decode cX4_viewRemove 26 = .ok (.ifCond .eq 7, 3) := by decide +kernel
theorem dX4_viewRemove_29 : decode cX4_viewRemove 29 = .ok (.iconst 1, 1) := by decide +kernel
theorem dX4_viewRemove_30 : decode cX4_viewRemove 30 = .ok (.goto 4, 3) := by decide +kernel
theorem dX4_viewRemove_33 : decode cX4_viewRemove 33 = .ok (.iconst 0, 1) := by decide +kernel
theorem dX4_viewRemove_34 : decode cX4_viewRemove 34 = .ok (.ireturn, 1) := by decide +kernel
theorem dX4_viewNear_0 : decode cX4_viewNear 0 = .ok (.aload_n 0, 1) := by decide +kernel
theorem dX4_viewNear_1 : decode cX4_viewNear 1 = .ok (.iload_n 1, 1) := by decide +kernel
theorem dX4_viewNear_2 : decode cX4_viewNear 2 = .ok (.invokevirtual 120, 3) := by decide +kernel
theorem dX4_viewNear_5 : decode cX4_viewNear 5 = .ok (.astore 4, 2) := by decide +kernel
theorem dX4_viewNear_7 : decode cX4_viewNear 7 = .ok (.iload_n 3, 1) := by decide +kernel
theorem dX4_viewNear_8 : decode cX4_viewNear 8 = .ok (.invokestatic 71, 3) := by decide +kernel
theorem dX4_viewNear_11 : decode cX4_viewNear 11 = .ok (.ifCond .ne 13, 3) := by decide +kernel
theorem dX4_viewNear_14 : decode cX4_viewNear 14 = .ok (.new 75, 3) := by decide +kernel
theorem dX4_viewNear_17 : decode cX4_viewNear 17 = .ok (.dup, 1) := by decide +kernel
theorem dX4_viewNear_18 : decode cX4_viewNear 18 = .ok (.ldc 77, 2) := by decide +kernel
theorem dX4_viewNear_20 : decode cX4_viewNear 20 = .ok (.invokespecial 79, 3) := by decide +kernel
theorem dX4_viewNear_23 : decode cX4_viewNear 23 = .ok (.athrow, 1) := by decide +kernel
theorem dX4_viewNear_24 : decode cX4_viewNear 24 = .ok (.aload 4, 2) := by decide +kernel
theorem dX4_viewNear_26 : decode cX4_viewNear 26 = .ok (.invokestatic 155, 3) := by decide +kernel
theorem dX4_viewNear_29 : decode cX4_viewNear 29 = .ok (.astore 5, 2) := by decide +kernel
theorem dX4_viewNear_31 : decode cX4_viewNear 31 = .ok (.aload 5, 2) := by decide +kernel
theorem dX4_viewNear_33 : decode cX4_viewNear 33 = .ok (.iload_n 2, 1) := by decide +kernel
theorem dX4_viewNear_34 : decode cX4_viewNear 34 = .ok (.iload_n 3, 1) := by decide +kernel
theorem dX4_viewNear_35 : decode cX4_viewNear 35 = .ok (.aload 4, 2) := by decide +kernel
theorem dX4_viewNear_37 : decode cX4_viewNear 37 = .ok (.aload 5, 2) := by decide +kernel
theorem dX4_viewNear_39 : decode cX4_viewNear 39 = .ok (.invokevirtual 161, 3) := by decide +kernel
theorem dX4_viewNear_42 : decode cX4_viewNear 42 = .ok (.aload 4, 2) := by decide +kernel
theorem dX4_viewNear_44 : decode cX4_viewNear 44 = .ok (.aload 5, 2) := by decide +kernel
theorem dX4_viewNear_46 : decode cX4_viewNear 46 = .ok (.invokevirtual 165, 3) := by decide +kernel
theorem dX4_viewNear_49 : decode cX4_viewNear 49 = .ok (.invokevirtual 80, 3) := by decide +kernel
theorem dX4_viewNear_52 : decode cX4_viewNear 52 = .ok (.istore 6, 2) := by decide +kernel
theorem dX4_viewNear_54 : decode cX4_viewNear 54 = .ok (.iload 6, 2) := by decide +kernel
theorem dX4_viewNear_56 : decode cX4_viewNear 56 = .ok (.ifCond .ge 13, 3) := by decide +kernel
theorem dX4_viewNear_59 : decode cX4_viewNear 59 = .ok (.new 57, 3) := by decide +kernel
theorem dX4_viewNear_62 : decode cX4_viewNear 62 = .ok (.dup, 1) := by decide +kernel
theorem dX4_viewNear_63 : decode cX4_viewNear 63 = .ok (.ldc 168, 2) := by decide +kernel
theorem dX4_viewNear_65 : decode cX4_viewNear 65 = .ok (.invokespecial 61, 3) := by decide +kernel
theorem dX4_viewNear_68 : decode cX4_viewNear 68 = .ok (.athrow, 1) := by decide +kernel
theorem dX4_viewNear_69 : decode cX4_viewNear 69 = .ok (.aload 5, 2) := by decide +kernel
theorem dX4_viewNear_71 : decode cX4_viewNear 71 = .ok (.getfield 86, 3) := by decide +kernel
theorem dX4_viewNear_74 : decode cX4_viewNear 74 = .ok (.iload 6, 2) := by decide +kernel
theorem dX4_viewNear_76 : decode cX4_viewNear 76 = .ok (.iaload, 1) := by decide +kernel
theorem dX4_viewNear_77 : decode cX4_viewNear 77 = .ok (.ireturn, 1) := by decide +kernel
theorem dX4_viewEnd_0 : decode cX4_viewEnd 0 = .ok (.aload_n 0, 1) := by decide +kernel
theorem dX4_viewEnd_1 : decode cX4_viewEnd 1 = .ok (.iload_n 1, 1) := by decide +kernel
theorem dX4_viewEnd_2 : decode cX4_viewEnd 2 = .ok (.invokevirtual 120, 3) := by decide +kernel
theorem dX4_viewEnd_5 : decode cX4_viewEnd 5 = .ok (.astore_n 3, 1) := by decide +kernel
theorem dX4_viewEnd_6 : decode cX4_viewEnd 6 = .ok (.aload_n 3, 1) := by decide +kernel
theorem dX4_viewEnd_7 : decode cX4_viewEnd 7 = .ok (.invokestatic 155, 3) := by decide +kernel
theorem dX4_viewEnd_10 : decode cX4_viewEnd 10 = .ok (.astore 4, 2) := by decide +kernel
theorem dX4_viewEnd_12 : decode cX4_viewEnd 12 = .ok (.aload 4, 2) := by decide +kernel
theorem dX4_viewEnd_14 : decode cX4_viewEnd 14 = .ok (.getfield 86, 3) := by decide +kernel
theorem dX4_viewEnd_17 : decode cX4_viewEnd 17 = .ok (.aload_n 3, 1) := by decide +kernel
theorem dX4_viewEnd_18 : decode cX4_viewEnd 18 = .ok (.aload 4, 2) := by decide +kernel
theorem dX4_viewEnd_20 : decode cX4_viewEnd 20 = .ok (.invokevirtual 161, 3) := by decide +kernel
theorem dX4_viewEnd_23 : decode cX4_viewEnd 23 = .ok (.aload_n 3, 1) := by decide +kernel
theorem dX4_viewEnd_24 : decode cX4_viewEnd 24 = .ok (.aload 4, 2) := by decide +kernel
theorem dX4_viewEnd_26 : decode cX4_viewEnd 26 = .ok (.invokevirtual 165, 3) := by decide +kernel
theorem dX4_viewEnd_29 : decode cX4_viewEnd 29 = .ok (.iload_n 2, 1) := by decide +kernel
theorem dX4_viewEnd_30 : decode cX4_viewEnd 30 = .ok (.invokestatic 89, 3) := by decide +kernel
theorem dX4_viewEnd_33 : decode cX4_viewEnd 33 = .ok (.iaload, 1) := by decide +kernel
theorem dX4_viewEnd_34 : decode cX4_viewEnd 34 = .ok (.ireturn, 1) := by decide +kernel
theorem dX4_viewPoll_0 : decode cX4_viewPoll 0 = .ok (.aload_n 0, 1) := by decide +kernel
theorem dX4_viewPoll_1 : decode cX4_viewPoll 1 = .ok (.iload_n 1, 1) := by decide +kernel
theorem dX4_viewPoll_2 : decode cX4_viewPoll 2 = .ok (.invokevirtual 120, 3) := by decide +kernel
theorem dX4_viewPoll_5 : decode cX4_viewPoll 5 = .ok (.astore_n 3, 1) := by decide +kernel
theorem dX4_viewPoll_6 : decode cX4_viewPoll 6 = .ok (.aload_n 3, 1) := by decide +kernel
theorem dX4_viewPoll_7 : decode cX4_viewPoll 7 = .ok (.invokestatic 155, 3) := by decide +kernel
theorem dX4_viewPoll_10 : decode cX4_viewPoll 10 = .ok (.astore 4, 2) := by decide +kernel
theorem dX4_viewPoll_12 : decode cX4_viewPoll 12 = .ok (.aload_n 0, 1) := by decide +kernel
theorem dX4_viewPoll_13 : decode cX4_viewPoll 13 = .ok (.aload 4, 2) := by decide +kernel
theorem dX4_viewPoll_15 : decode cX4_viewPoll 15 = .ok (.aload_n 3, 1) := by decide +kernel
theorem dX4_viewPoll_16 : decode cX4_viewPoll 16 = .ok (.aload 4, 2) := by decide +kernel
theorem dX4_viewPoll_18 : decode cX4_viewPoll 18 = .ok (.invokevirtual 161, 3) := by decide +kernel
theorem dX4_viewPoll_21 : decode cX4_viewPoll 21 = .ok (.aload_n 3, 1) := by decide +kernel
theorem dX4_viewPoll_22 : decode cX4_viewPoll 22 = .ok (.aload 4, 2) := by decide +kernel
theorem dX4_viewPoll_24 : decode cX4_viewPoll 24 = .ok (.invokevirtual 165, 3) := by decide +kernel
theorem dX4_viewPoll_27 : decode cX4_viewPoll 27 = .ok (.iload_n 2, 1) := by decide +kernel
theorem dX4_viewPoll_28 : decode cX4_viewPoll 28 = .ok (.invokestatic 89, 3) := by decide +kernel
theorem dX4_viewPoll_31 : decode cX4_viewPoll 31 = .ok (.invokevirtual 93, 3) := by decide +kernel
theorem dX4_viewPoll_34 : decode cX4_viewPoll 34 = .ok (.ireturn, 1) := by decide +kernel
theorem dX4_viewClear_0 : decode cX4_viewClear 0 = .ok (.aload_n 0, 1) := by decide +kernel
theorem dX4_viewClear_1 : decode cX4_viewClear 1 = .ok (.iload_n 1, 1) := by decide +kernel
theorem dX4_viewClear_2 : decode cX4_viewClear 2 = .ok (.invokevirtual 120, 3) := by decide +kernel
theorem dX4_viewClear_5 : decode cX4_viewClear 5 = .ok (.astore_n 2, 1) := by decide +kernel
theorem dX4_viewClear_6 : decode cX4_viewClear 6 = .ok (.aload_n 2, 1) := by decide +kernel
theorem dX4_viewClear_7 : decode cX4_viewClear 7 = .ok (.invokestatic 155, 3) := by decide +kernel
theorem dX4_viewClear_10 : decode cX4_viewClear 10 = .ok (.astore_n 3, 1) := by decide +kernel
theorem dX4_viewClear_11 : decode cX4_viewClear 11 = .ok (.aload_n 3, 1) := by decide +kernel
theorem dX4_viewClear_12 : decode cX4_viewClear 12 = .ok (.getfield 49, 3) := by decide +kernel
theorem dX4_viewClear_15 : decode cX4_viewClear 15 = .ok (.istore 4, 2) := by decide +kernel
theorem dX4_viewClear_17 : decode cX4_viewClear 17 = .ok (.aload_n 3, 1) := by decide +kernel
theorem dX4_viewClear_18 : decode cX4_viewClear 18 = .ok (.aload_n 2, 1) := by decide +kernel
theorem dX4_viewClear_19 : decode cX4_viewClear 19 = .ok (.aload_n 3, 1) := by decide +kernel
theorem dX4_viewClear_20 : decode cX4_viewClear 20 = .ok (.invokevirtual 161, 3) := by decide +kernel
theorem dX4_viewClear_23 : decode cX4_viewClear 23 = .ok (.aload_n 2, 1) := by decide +kernel
theorem dX4_viewClear_24 : decode cX4_viewClear 24 = .ok (.aload_n 3, 1) := by decide +kernel
theorem dX4_viewClear_25 : decode cX4_viewClear 25 = .ok (.invokevirtual 165, 3) := by decide +kernel
theorem dX4_viewClear_28 : decode cX4_viewClear 28 = .ok (.invokevirtual 170, 3) := by decide +kernel
theorem dX4_viewClear_31 : decode cX4_viewClear 31 = .ok (.iload 4, 2) := by decide +kernel
theorem dX4_viewClear_33 : decode cX4_viewClear 33 = .ok (.aload_n 3, 1) := by decide +kernel
theorem dX4_viewClear_34 : decode cX4_viewClear 34 = .ok (.getfield 49, 3) := by decide +kernel
theorem dX4_viewClear_37 : decode cX4_viewClear 37 = .ok (.isub, 1) := by decide +kernel
theorem dX4_viewClear_38 : decode cX4_viewClear 38 = .ok (.ireturn, 1) := by decide +kernel
theorem dX4_viewSize_0 : decode cX4_viewSize 0 = .ok (.aload_n 0, 1) := by decide +kernel
theorem dX4_viewSize_1 : decode cX4_viewSize 1 = .ok (.iload_n 1, 1) := by decide +kernel
theorem dX4_viewSize_2 : decode cX4_viewSize 2 = .ok (.invokevirtual 120, 3) := by decide +kernel
theorem dX4_viewSize_5 : decode cX4_viewSize 5 = .ok (.invokevirtual 130, 3) := by decide +kernel
theorem dX4_viewSize_8 : decode cX4_viewSize 8 = .ok (.ireturn, 1) := by decide +kernel
theorem dX4_lies_0 : decode cX4_lies 0 = .ok (.aload_n 0, 1) := by decide +kernel
theorem dX4_lies_1 : decode cX4_lies 1 = .ok (.iload_n 1, 1) := by decide +kernel
theorem dX4_lies_2 : decode cX4_lies 2 = .ok (.invokevirtual 120, 3) := by decide +kernel
theorem dX4_lies_5 : decode cX4_lies 5 = .ok (.astore_n 3, 1) := by decide +kernel
theorem dX4_lies_6 : decode cX4_lies 6 = .ok (.aload_n 3, 1) := by decide +kernel
theorem dX4_lies_7 : decode cX4_lies 7 = .ok (.invokestatic 134, 3) := by decide +kernel
theorem dX4_lies_10 : decode cX4_lies 10 = .ok (.aload_n 3, 1) := by decide +kernel
theorem dX4_lies_11 : decode cX4_lies 11 = .ok (.iload_n 2, 1) := by decide +kernel
theorem dX4_lies_12 : decode cX4_lies 12 = .ok (.invokevirtual 138, 3) := by decide +kernel
theorem dX4_lies_15 : decode cX4_lies 15 = .ok (.ireturn, 1) := by decide +kernel
theorem dX4_step_0 : decode cX4_step 0 = .ok (.aload_n 0, 1) := by decide +kernel
theorem dX4_step_1 : decode cX4_step 1 = .ok (.iload_n 1, 1) := by decide +kernel
theorem dX4_step_2 : decode cX4_step 2 = .ok (.invokevirtual 174, 3) := by decide +kernel
theorem dX4_step_5 : decode cX4_step 5 = .ok (.astore 5, 2) := by decide +kernel
theorem dX4_step_7 : decode cX4_step 7 = .ok (.iload_n 2, 1) := by decide +kernel
theorem dX4_step_8 : decode cX4_step 8 = .ok (.invokestatic 178, 3) := by decide +kernel
theorem dX4_step_11 : decode cX4_step 11 = .ok (.ifCond .ne 13, 3) := by decide +kernel
theorem dX4_step_14 : decode cX4_step 14 = .ok (.new 75, 3) := by decide +kernel
theorem dX4_step_17 : decode cX4_step 17 = .ok (.dup, 1) := by decide +kernel
theorem dX4_step_18 : decode cX4_step 18 = .ok (.ldc 181, 2) := by decide +kernel
theorem dX4_step_20 : decode cX4_step 20 = .ok (.invokespecial 79, 3) := by decide +kernel
theorem dX4_step_23 : decode cX4_step 23 = .ok (.athrow, 1) := by decide +kernel
theorem dX4_step_24 : decode cX4_step 24 = .ok (.aload 5, 2) := by decide +kernel
theorem dX4_step_26 : decode cX4_step 26 = .ok (.getfield 183, 3) := by decide +kernel
theorem dX4_step_29 : decode cX4_step 29 = .ok (.bipush 30, 2) := by decide +kernel
theorem dX4_step_31 : decode cX4_step 31 = .ok (.if_icmp .lt 13, 3) := by decide +kernel
theorem dX4_step_34 : decode cX4_step 34 = .ok (.new 146, 3) := by decide +kernel
theorem dX4_step_37 : decode cX4_step 37 = .ok (.dup, 1) := by decide +kernel
theorem dX4_step_38 : decode cX4_step 38 = .ok (.ldc 184, 2) := by decide +kernel
theorem dX4_step_40 : decode cX4_step 40 = .ok (.invokespecial 150, 3) := by decide +kernel
theorem dX4_step_43 : decode cX4_step 43 = .ok (.athrow, 1) := by decide +kernel
theorem dX4_step_44 : decode cX4_step 44 = .ok (.aload 5, 2) := by decide +kernel
theorem dX4_step_46 : decode cX4_step 46 = .ok (.iload_n 2, 1) := by decide +kernel
theorem dX4_step_47 : decode cX4_step 47 = .ok (.iload_n 3, 1) := by decide +kernel
theorem dX4_step_48 : decode cX4_step 48 = .ok (.iload 4, 2) := by decide +kernel
theorem dX4_step_50 : decode cX4_step 50 = .ok (.invokevirtual 186, 3) := by decide +kernel
theorem dX4_step_53 : decode cX4_step 53 = .ok (.aload 5, 2) := by decide +kernel
theorem dX4_step_55 : decode cX4_step 55 = .ok (.getfield 183, 3) := by decide +kernel
theorem dX4_step_58 : decode cX4_step 58 = .ok (.ireturn, 1) := by decide +kernel
theorem dX4_forget_0 : decode cX4_forget 0 = .ok (.aload_n 0, 1) := by decide +kernel
theorem dX4_forget_1 : decode cX4_forget 1 = .ok (.iload_n 1, 1) := by decide +kernel
theorem dX4_forget_2 : decode cX4_forget 2 = .ok (.invokevirtual 174, 3) := by decide +kernel
theorem dX4_forget_5 : decode cX4_forget 5 = .ok (.astore_n 2, 1) := by decide +kernel
theorem dX4_forget_6 : decode cX4_forget 6 = .ok (.aload_n 2, 1) := by decide +kernel
theorem dX4_forget_7 : decode cX4_forget 7 = .ok (.getfield 183, 3) := by decide +kernel
theorem dX4_forget_10 : decode cX4_forget 10 = .ok (.istore_n 3, 1) := by decide +kernel
theorem dX4_forget_11 : decode cX4_forget 11 = .ok (.aload_n 2, 1) := by decide +kernel
theorem dX4_forget_12 : decode cX4_forget 12 = .ok (.iconst 0, 1) := by decide +kernel
theorem dX4_forget_13 : decode cX4_forget 13 = .ok (.putfield 183, 3) := by decide +kernel
theorem dX4_forget_16 : decode cX4_forget 16 = .ok (.iload_n 3, 1) := by decide +kernel
theorem dX4_forget_17 : decode cX4_forget 17 = .ok (.ireturn, 1) := by decide +kernel
theorem dX4_play_0 : decode cX4_play 0 = .ok (.aload_n 0, 1) := by decide +kernel
theorem dX4_play_1 : decode cX4_play 1 = .ok (.iload_n 1, 1) := by decide +kernel
theorem dX4_play_2 : decode cX4_play 2 = .ok (.invokevirtual 174, 3) := by decide +kernel
theorem dX4_play_5 : decode cX4_play 5 = .ok (.astore_n 3, 1) := by decide +kernel
theorem dX4_play_6 : decode cX4_play 6 = .ok (.aload_n 0, 1) := by decide +kernel
theorem dX4_play_7 : decode cX4_play 7 = .ok (.iload_n 2, 1) := by decide +kernel
theorem dX4_play_8 : decode cX4_play 8 = .ok (.invokevirtual 41, 3) := by decide +kernel
theorem dX4_play_11 : decode cX4_play 11 = .ok (.astore 4, 2) := by decide +kernel
theorem dX4_play_13 : decode cX4_play 13 = .ok (.aload_n 0, 1) := by decide +kernel
theorem dX4_play_14 : decode cX4_play 14 = .ok (.getfield 30, 3) := by decide +kernel
theorem dX4_play_17 : decode cX4_play 17 = .ok (.aload 4, 2) := by decide +kernel
theorem dX4_play_19 : decode cX4_play 19 = .ok (.aload_n 3, 1) := by decide +kernel
theorem dX4_play_20 : decode cX4_play 20 = .ok (.aload_n 3, 1) := by decide +kernel
theorem dX4_play_21 : decode cX4_play 21 = .ok (.invokevirtual 190, 3) := by decide +kernel
theorem dX4_play_24 : decode cX4_play 24 = .ok (.ifCond .ne 13, 3) := by decide +kernel
theorem dX4_play_27 : decode cX4_play 27 = .ok (.new 146, 3) := by decide +kernel
theorem dX4_play_30 : decode cX4_play 30 = .ok (.dup, 1) := by decide +kernel
theorem dX4_play_31 : decode cX4_play 31 = .ok (.ldc 194, 2) := by decide +kernel
theorem dX4_play_33 : decode cX4_play 33 = .ok (.invokespecial 150, 3) := by decide +kernel
theorem dX4_play_36 : decode cX4_play 36 = .ok (.athrow, 1) := by decide +kernel
theorem dX4_play_37 : decode cX4_play 37 = .ok (.aload_n 3, 1) := by decide +kernel
theorem dX4_play_38 : decode cX4_play 38 = .ok (.aload 4, 2) := by decide +kernel
theorem dX4_play_40 : decode cX4_play 40 = .ok (.invokevirtual 196, 3) := by decide +kernel
theorem dX4_play_43 : decode cX4_play 43 = .ok (.ireturn, 1) := by decide +kernel
theorem dX4_playBoth_0 : decode cX4_playBoth 0 = .ok (.aload_n 0, 1) := by decide +kernel
theorem dX4_playBoth_1 : decode cX4_playBoth 1 = .ok (.iload_n 1, 1) := by decide +kernel
theorem dX4_playBoth_2 : decode cX4_playBoth 2 = .ok (.invokevirtual 174, 3) := by decide +kernel
theorem dX4_playBoth_5 : decode cX4_playBoth 5 = .ok (.astore 5, 2) := by decide +kernel
theorem dX4_playBoth_7 : decode cX4_playBoth 7 = .ok (.aload_n 0, 1) := by decide +kernel
theorem dX4_playBoth_8 : decode cX4_playBoth 8 = .ok (.iload_n 2, 1) := by decide +kernel
theorem dX4_playBoth_9 : decode cX4_playBoth 9 = .ok (.invokevirtual 174, 3) := by decide +kernel
theorem dX4_playBoth_12 : decode cX4_playBoth 12 = .ok (.astore 6, 2) := by decide +kernel
theorem dX4_playBoth_14 : decode cX4_playBoth 14 = .ok (.aload_n 0, 1) := by decide +kernel
theorem dX4_playBoth_15 : decode cX4_playBoth 15 = .ok (.iload 4, 2) := by decide +kernel
theorem dX4_playBoth_17 : decode cX4_playBoth 17 = .ok (.invokevirtual 41, 3) := by decide +kernel
theorem dX4_playBoth_20 : decode cX4_playBoth 20 = .ok (.astore 7, 2) := by decide +kernel
theorem dX4_playBoth_22 : decode cX4_playBoth 22 = .ok (.aload_n 0, 1) := by decide +kernel
theorem dX4_playBoth_23 : decode cX4_playBoth 23 = .ok (.getfield 30, 3) := by decide +kernel
theorem dX4_playBoth_26 : decode cX4_playBoth 26 = .ok (.aload 7, 2) := by decide +kernel
theorem dX4_playBoth_28 : decode cX4_playBoth 28 = .ok (.aload 5, 2) := by decide +kernel
theorem dX4_playBoth_30 : decode cX4_playBoth 30 = .ok (.aload 6, 2) := by decide +kernel
theorem dX4_playBoth_32 : decode cX4_playBoth 32 = .ok (.invokevirtual 190, 3) := by decide +kernel
theorem dX4_playBoth_35 : decode cX4_playBoth 35 = .ok (.ifCond .ne 13, 3) := by decide +kernel
theorem dX4_playBoth_38 : decode cX4_playBoth 38 = .ok (.new 146, 3) := by decide +kernel
theorem dX4_playBoth_41 : decode cX4_playBoth 41 = .ok (.dup, 1) := by decide +kernel
theorem dX4_playBoth_42 : decode cX4_playBoth 42 = .ok (.ldc 199, 2) := by decide +kernel
theorem dX4_playBoth_44 : decode cX4_playBoth 44 = .ok (.invokespecial 150, 3) := by decide +kernel
theorem dX4_playBoth_47 : decode cX4_playBoth 47 = .ok (.athrow, 1) := by decide +kernel
theorem dX4_playBoth_48 : decode cX4_playBoth 48 = .ok (.aload 5, 2) := by decide +kernel
theorem dX4_playBoth_50 : decode cX4_playBoth 50 = .ok (.aload 6, 2) := by decide +kernel
theorem dX4_playBoth_52 : decode cX4_playBoth 52 = .ok (.iload_n 3, 1) := by decide +kernel
theorem dX4_playBoth_53 : decode cX4_playBoth 53 = .ok (.aload 7, 2) := by decide +kernel
theorem dX4_playBoth_55 : decode cX4_playBoth 55 = .ok (.invokestatic 201, 3) := by decide +kernel
theorem dX4_playBoth_58 : decode cX4_playBoth 58 = .ok (.aload 7, 2) := by decide +kernel
theorem dX4_playBoth_60 : decode cX4_playBoth 60 = .ok (.getfield 49, 3) := by decide +kernel
theorem dX4_playBoth_63 : decode cX4_playBoth 63 = .ok (.ireturn, 1) := by decide +kernel
theorem dX4_meet_0 : decode cX4_meet 0 = .ok (.aload_n 0, 1) := by decide +kernel
theorem dX4_meet_1 : decode cX4_meet 1 = .ok (.iload_n 1, 1) := by decide +kernel
theorem dX4_meet_2 : decode cX4_meet 2 = .ok (.invokevirtual 174, 3) := by decide +kernel
theorem dX4_meet_5 : decode cX4_meet 5 = .ok (.astore_n 3, 1) := by decide +kernel
theorem dX4_meet_6 : decode cX4_meet 6 = .ok (.aload_n 0, 1) := by decide +kernel
theorem dX4_meet_7 : decode cX4_meet 7 = .ok (.getfield 30, 3) := by decide +kernel
theorem dX4_meet_10 : decode cX4_meet 10 = .ok (.aload_n 3, 1) := by decide +kernel
theorem dX4_meet_11 : decode cX4_meet 11 = .ok (.aload_n 0, 1) := by decide +kernel
theorem dX4_meet_12 : decode cX4_meet 12 = .ok (.iload_n 2, 1) := by decide +kernel
theorem dX4_meet_13 : decode cX4_meet 13 = .ok (.invokevirtual 174, 3) := by decide +kernel
theorem dX4_meet_16 : decode cX4_meet 16 = .ok (.invokevirtual 205, 3) := by decide +kernel
theorem dX4_meet_19 : decode cX4_meet 19 = .ok (.ireturn, 1) := by decide +kernel
theorem dX4_opposite_0 : decode cX4_opposite 0 = .ok (.aload_n 0, 1) := by decide +kernel
theorem dX4_opposite_1 : decode cX4_opposite 1 = .ok (.iload_n 1, 1) := by decide +kernel
theorem dX4_opposite_2 : decode cX4_opposite 2 = .ok (.invokevirtual 174, 3) := by decide +kernel
theorem dX4_opposite_5 : decode cX4_opposite 5 = .ok (.astore 4, 2) := by decide +kernel
theorem dX4_opposite_7 : decode cX4_opposite 7 = .ok (.aload_n 0, 1) := by decide +kernel
theorem dX4_opposite_8 : decode cX4_opposite 8 = .ok (.iload_n 2, 1) := by decide +kernel
theorem dX4_opposite_9 : decode cX4_opposite 9 = .ok (.invokevirtual 41, 3) := by decide +kernel
theorem dX4_opposite_12 : decode cX4_opposite 12 = .ok (.astore 5, 2) := by decide +kernel
theorem dX4_opposite_14 : decode cX4_opposite 14 = .ok (.aload_n 0, 1) := by decide +kernel
theorem dX4_opposite_15 : decode cX4_opposite 15 = .ok (.iload_n 3, 1) := by decide +kernel
theorem dX4_opposite_16 : decode cX4_opposite 16 = .ok (.invokevirtual 174, 3) := by decide +kernel
theorem dX4_opposite_19 : decode cX4_opposite 19 = .ok (.astore 6, 2) := by decide +kernel
theorem dX4_opposite_21 : decode cX4_opposite 21 = .ok (.aload_n 0, 1) := by decide +kernel
theorem dX4_opposite_22 : decode cX4_opposite 22 = .ok (.getfield 30, 3) := by decide +kernel
theorem dX4_opposite_25 : decode cX4_opposite 25 = .ok (.aload 4, 2) := by decide +kernel
theorem dX4_opposite_27 : decode cX4_opposite 27 = .ok (.aload 5, 2) := by decide +kernel
theorem dX4_opposite_29 : decode cX4_opposite 29 = .ok (.aload 6, 2) := by decide +kernel
theorem dX4_opposite_31 : decode cX4_opposite 31 = .ok (.invokevirtual 209, 3) := by decide +kernel
theorem dX4_opposite_34 : decode cX4_opposite 34 = .ok (.aload 6, 2) := by decide +kernel
theorem dX4_opposite_36 : decode cX4_opposite 36 = .ok (.getfield 183, 3) := by decide +kernel
theorem dX4_opposite_39 : decode cX4_opposite 39 = .ok (.ireturn, 1) := by decide +kernel
theorem dX4_combine_0 : decode cX4_combine 0 = .ok (.aload_n 0, 1) := by decide +kernel
theorem dX4_combine_1 : decode cX4_combine 1 = .ok (.iload_n 1, 1) := by decide +kernel
theorem dX4_combine_2 : decode cX4_combine 2 = .ok (.invokevirtual 41, 3) := by decide +kernel
theorem dX4_combine_5 : decode cX4_combine 5 = .ok (.astore 4, 2) := by decide +kernel
theorem dX4_combine_7 : decode cX4_combine 7 = .ok (.aload_n 0, 1) := by decide +kernel
theorem dX4_combine_8 : decode cX4_combine 8 = .ok (.iload_n 2, 1) := by decide +kernel
theorem dX4_combine_9 : decode cX4_combine 9 = .ok (.invokevirtual 41, 3) := by decide +kernel
theorem dX4_combine_12 : decode cX4_combine 12 = .ok (.astore 5, 2) := by decide +kernel
theorem dX4_combine_14 : decode cX4_combine 14 = .ok (.iload_n 3, 1) := by decide +kernel
theorem dX4_combine_15 : decode cX4_combine 15 = .ok (.invokestatic 213, 3) := by decide +kernel
theorem dX4_combine_18 : decode cX4_combine 18 = .ok (.ifCond .eq 8, 3) := by decide +kernel
theorem dX4_combine_21 : decode cX4_combine 21 = .ok (.iload_n 1, 1) := by decide +kernel
theorem dX4_combine_22 : decode cX4_combine 22 = .ok (.iload_n 2, 1) := by decide +kernel
theorem dX4_combine_23 : decode cX4_combine 23 = .ok (.if_icmp .ne 13, 3) := by decide +kernel
theorem dX4_combine_26 : decode cX4_combine 26 = .ok (.new 75, 3) := by decide +kernel
theorem dX4_combine_29 : decode cX4_combine 29 = .ok (.dup, 1) := by decide +kernel
theorem dX4_combine_30 : decode cX4_combine 30 = .ok (.ldc 216, 2) := by decide +kernel
theorem dX4_combine_32 : decode cX4_combine 32 = .ok (.invokespecial 79, 3) := by decide +kernel
theorem dX4_combine_35 : decode cX4_combine 35 = .ok (.athrow, 1) := by decide +kernel
theorem dX4_combine_36 : decode cX4_combine 36 = .ok (.aload 5, 2) := by decide +kernel
theorem dX4_combine_38 : decode cX4_combine 38 = .ok (.getfield 49, 3) := by decide +kernel
theorem dX4_combine_41 : decode cX4_combine 41 = .ok (.aload 4, 2) := by decide +kernel
theorem dX4_combine_43 : decode cX4_combine 43 = .ok (.aload 5, 2) := by decide +kernel
theorem dX4_combine_45 : decode cX4_combine 45 = .ok (.invokevirtual 218, 3) := by decide +kernel
theorem dX4_combine_48 : decode cX4_combine 48 = .ok (.iadd, 1) := by decide +kernel
theorem dX4_combine_49 : decode cX4_combine 49 = .ok (.bipush 60, 2) := by decide +kernel
theorem dX4_combine_51 : decode cX4_combine 51 = .ok (.if_icmp .le 13, 3) := by decide +kernel
theorem dX4_combine_54 : decode cX4_combine 54 = .ok (.new 146, 3) := by decide +kernel
theorem dX4_combine_57 : decode cX4_combine 57 = .ok (.dup, 1) := by decide +kernel
theorem dX4_combine_58 : decode cX4_combine 58 = .ok (.ldc 221, 2) := by decide +kernel
theorem dX4_combine_60 : decode cX4_combine 60 = .ok (.invokespecial 150, 3) := by decide +kernel
theorem dX4_combine_63 : decode cX4_combine 63 = .ok (.athrow, 1) := by decide +kernel
theorem dX4_combine_64 : decode cX4_combine 64 = .ok (.aload 5, 2) := by decide +kernel
theorem dX4_combine_66 : decode cX4_combine 66 = .ok (.aload 4, 2) := by decide +kernel
theorem dX4_combine_68 : decode cX4_combine 68 = .ok (.iload_n 3, 1) := by decide +kernel
theorem dX4_combine_69 : decode cX4_combine 69 = .ok (.invokevirtual 223, 3) := by decide +kernel
theorem dX4_combine_72 : decode cX4_combine 72 = .ok (.aload 5, 2) := by decide +kernel
theorem dX4_combine_74 : decode cX4_combine 74 = .ok (.getfield 49, 3) := by decide +kernel
theorem dX4_combine_77 : decode cX4_combine 77 = .ok (.ireturn, 1) := by decide +kernel
theorem dX4_fullShare_0 : decode cX4_fullShare 0 = .ok (.aload_n 0, 1) := by decide +kernel
theorem dX4_fullShare_1 : decode cX4_fullShare 1 = .ok (.iload_n 1, 1) := by decide +kernel
theorem dX4_fullShare_2 : decode cX4_fullShare 2 = .ok (.invokevirtual 41, 3) := by decide +kernel
theorem dX4_fullShare_5 : decode cX4_fullShare 5 = .ok (.getfield 49, 3) := by decide +kernel
theorem dX4_fullShare_8 : decode cX4_fullShare 8 = .ok (.i2f, 1) := by decide +kernel
theorem dX4_fullShare_9 : decode cX4_fullShare 9 = .ok (.ldc 227, 2) := by decide +kernel
theorem dX4_fullShare_11 : decode cX4_fullShare 11 = .ok (.fdiv, 1) := by decide +kernel
theorem dX4_fullShare_12 : decode cX4_fullShare 12 = .ok (.freturn, 1) := by decide +kernel
theorem dX4_meanKey_0 : decode cX4_meanKey 0 = .ok (.aload_n 0, 1) := by decide +kernel
theorem dX4_meanKey_1 : decode cX4_meanKey 1 = .ok (.iload_n 1, 1) := by decide +kernel
theorem dX4_meanKey_2 : decode cX4_meanKey 2 = .ok (.invokevirtual 41, 3) := by decide +kernel
theorem dX4_meanKey_5 : decode cX4_meanKey 5 = .ok (.astore_n 2, 1) := by decide +kernel
theorem dX4_meanKey_6 : decode cX4_meanKey 6 = .ok (.aload_n 2, 1) := by decide +kernel
theorem dX4_meanKey_7 : decode cX4_meanKey 7 = .ok (.getfield 49, 3) := by decide +kernel
theorem dX4_meanKey_10 : decode cX4_meanKey 10 = .ok (.ifCond .ne 13, 3) := by decide +kernel
theorem dX4_meanKey_13 : decode cX4_meanKey 13 = .ok (.new 228, 3) := by decide +kernel
theorem dX4_meanKey_16 : decode cX4_meanKey 16 = .ok (.dup, 1) := by decide +kernel
theorem dX4_meanKey_17 : decode cX4_meanKey 17 = .ok (.ldc 230, 2) := by decide +kernel
theorem dX4_meanKey_19 : decode cX4_meanKey 19 = .ok (.invokespecial 232, 3) := by decide +kernel
theorem dX4_meanKey_22 : decode cX4_meanKey 22 = .ok (.athrow, 1) := by decide +kernel
theorem dX4_meanKey_23 : decode cX4_meanKey 23 = .ok (.lconst 0, 1) := by decide +kernel
theorem dX4_meanKey_24 : decode cX4_meanKey 24 = .ok (.lstore_n 3, 1) := by decide +kernel
theorem dX4_meanKey_25 : decode cX4_meanKey 25 = .ok (.iconst 0, 1) := by decide +kernel
theorem dX4_meanKey_26 : decode cX4_meanKey 26 = .ok (.istore 5, 2) := by decide +kernel
theorem dX4_meanKey_28 : decode cX4_meanKey 28 = .ok (.iload 5, 2) := by decide +kernel
theorem dX4_meanKey_30 : decode cX4_meanKey 30 = .ok (.aload_n 2, 1) := by decide +kernel
theorem dX4_meanKey_31 : decode cX4_meanKey 31 = .ok (.getfield 49, 3) := by decide +kernel
theorem dX4_meanKey_34 : decode cX4_meanKey 34 = .ok (.if_icmp .ge 20, 3) := by decide +kernel
theorem dX4_meanKey_37 : decode cX4_meanKey 37 = .ok (.lload_n 3, 1) := by decide +kernel
theorem dX4_meanKey_38 : decode cX4_meanKey 38 = .ok (.aload_n 2, 1) := by decide +kernel
theorem dX4_meanKey_39 : decode cX4_meanKey 39 = .ok (.getfield 86, 3) := by decide +kernel
theorem dX4_meanKey_42 : decode cX4_meanKey 42 = .ok (.iload 5, 2) := by decide +kernel
theorem dX4_meanKey_44 : decode cX4_meanKey 44 = .ok (.iaload, 1) := by decide +kernel
theorem dX4_meanKey_45 : decode cX4_meanKey 45 = .ok (.i2l, 1) := by decide +kernel
theorem dX4_meanKey_46 : decode cX4_meanKey 46 = .ok (.ladd, 1) := by decide +kernel
theorem dX4_meanKey_47 : decode cX4_meanKey 47 = .ok (.lstore_n 3, 1) := by decide +kernel
theorem dX4_meanKey_48 : decode cX4_meanKey 48 = .ok (.iinc 5 1, 3) := by decide +kernel
theorem dX4_meanKey_51 : decode cX4_meanKey 51 = .ok (.goto (-23), 3) := by decide +kernel
theorem dX4_meanKey_54 : decode cX4_meanKey 54 = .ok (.lload_n 3, 1) := by decide +kernel
theorem dX4_meanKey_55 : decode cX4_meanKey 55 = .ok (.l2d, 1) := by decide +kernel
theorem dX4_meanKey_56 : decode cX4_meanKey 56 = .ok (.aload_n 2, 1) := by decide +kernel
theorem dX4_meanKey_57 : decode cX4_meanKey 57 = .ok (.getfield 49, 3) := by decide +kernel
theorem dX4_meanKey_60 : decode cX4_meanKey 60 = .ok (.i2d, 1) := by decide +kernel
theorem dX4_meanKey_61 : decode cX4_meanKey 61 = .ok (.ddiv, 1) := by decide +kernel
theorem dX4_meanKey_62 : decode cX4_meanKey 62 = .ok (.dreturn, 1) := by decide +kernel
theorem dX4_checksum_0 : decode cX4_checksum 0 = .ok (.ldc2_w 233, 3) := by decide +kernel
theorem dX4_checksum_3 : decode cX4_checksum 3 = .ok (.lstore_n 1, 1) := by decide +kernel
theorem dX4_checksum_4 : decode cX4_checksum 4 = .ok (.iconst 0, 1) := by decide +kernel
theorem dX4_checksum_5 : decode cX4_checksum 5 = .ok (.istore_n 3, 1) := by decide +kernel
theorem dX4_checksum_6 : decode cX4_checksum 6 = .ok (.iload_n 3, 1) := by decide +kernel
theorem dX4_checksum_7 : decode cX4_checksum 7 = .ok (.aload_n 0, 1) := by decide +kernel
theorem dX4_checksum_8 : decode cX4_checksum 8 = .ok (.getfield 11, 3) := by decide +kernel
theorem dX4_checksum_11 : decode cX4_checksum 11 = .ok (.arraylength, 1) := by decide +kernel
theorem dX4_checksum_12 : decode cX4_checksum 12 = .ok (.if_icmp .ge 20, 3) := by decide +kernel
theorem dX4_checksum_15 : decode cX4_checksum 15 = .ok (.aload_n 0, 1) := by decide +kernel
theorem dX4_checksum_16 : decode cX4_checksum 16 = .ok (.getfield 11, 3) := by decide +kernel
theorem dX4_checksum_19 : decode cX4_checksum 19 = .ok (.iload_n 3, 1) := by decide +kernel
theorem dX4_checksum_20 : decode cX4_checksum 20 = .ok (.aaload, 1) := by decide +kernel
theorem dX4_checksum_21 : decode cX4_checksum 21 = .ok (.lload_n 1, 1) := by decide +kernel
theorem dX4_checksum_22 : decode cX4_checksum 22 = .ok (.invokevirtual 235, 3) := by decide +kernel
theorem dX4_checksum_25 : decode cX4_checksum 25 = .ok (.lstore_n 1, 1) := by decide +kernel
theorem dX4_checksum_26 : decode cX4_checksum 26 = .ok (.iinc 3 1, 3) := by decide +kernel
theorem dX4_checksum_29 : decode cX4_checksum 29 = .ok (.goto (-23), 3) := by decide +kernel
theorem dX4_checksum_32 : decode cX4_checksum 32 = .ok (.iconst 0, 1) := by decide +kernel
theorem dX4_checksum_33 : decode cX4_checksum 33 = .ok (.istore_n 3, 1) := by decide +kernel
theorem dX4_checksum_34 : decode cX4_checksum 34 = .ok (.iload_n 3, 1) := by decide +kernel
theorem dX4_checksum_35 : decode cX4_checksum 35 = .ok (.aload_n 0, 1) := by decide +kernel
theorem dX4_checksum_36 : decode cX4_checksum 36 = .ok (.getfield 17, 3) := by decide +kernel
theorem dX4_checksum_39 : decode cX4_checksum 39 = .ok (.arraylength, 1) := by decide +kernel
theorem dX4_checksum_40 : decode cX4_checksum 40 = .ok (.if_icmp .ge 20, 3) := by decide +kernel
theorem dX4_checksum_43 : decode cX4_checksum 43 = .ok (.aload_n 0, 1) := by decide +kernel
theorem dX4_checksum_44 : decode cX4_checksum 44 = .ok (.getfield 17, 3) := by decide +kernel
theorem dX4_checksum_47 : decode cX4_checksum 47 = .ok (.iload_n 3, 1) := by decide +kernel
theorem dX4_checksum_48 : decode cX4_checksum 48 = .ok (.aaload, 1) := by decide +kernel
theorem dX4_checksum_49 : decode cX4_checksum 49 = .ok (.lload_n 1, 1) := by decide +kernel
theorem dX4_checksum_50 : decode cX4_checksum 50 = .ok (.invokevirtual 239, 3) := by decide +kernel
theorem dX4_checksum_53 : decode cX4_checksum 53 = .ok (.lstore_n 1, 1) := by decide +kernel
theorem dX4_checksum_54 : decode cX4_checksum 54 = .ok (.iinc 3 1, 3) := by decide +kernel
theorem dX4_checksum_57 : decode cX4_checksum 57 = .ok (.goto (-23), 3) := by decide +kernel
theorem dX4_checksum_60 : decode cX4_checksum 60 = .ok (.iconst 0, 1) := by decide +kernel
theorem dX4_checksum_61 : decode cX4_checksum 61 = .ok (.istore_n 3, 1) := by decide +kernel
theorem dX4_checksum_62 : decode cX4_checksum 62 = .ok (.iload_n 3, 1) := by decide +kernel
theorem dX4_checksum_63 : decode cX4_checksum 63 = .ok (.aload_n 0, 1) := by decide +kernel
theorem dX4_checksum_64 : decode cX4_checksum 64 = .ok (.getfield 23, 3) := by decide +kernel
theorem dX4_checksum_67 : decode cX4_checksum 67 = .ok (.arraylength, 1) := by decide +kernel
theorem dX4_checksum_68 : decode cX4_checksum 68 = .ok (.if_icmp .ge 20, 3) := by decide +kernel
theorem dX4_checksum_71 : decode cX4_checksum 71 = .ok (.aload_n 0, 1) := by decide +kernel
theorem dX4_checksum_72 : decode cX4_checksum 72 = .ok (.getfield 23, 3) := by decide +kernel
theorem dX4_checksum_75 : decode cX4_checksum 75 = .ok (.iload_n 3, 1) := by decide +kernel
theorem dX4_checksum_76 : decode cX4_checksum 76 = .ok (.aaload, 1) := by decide +kernel
theorem dX4_checksum_77 : decode cX4_checksum 77 = .ok (.lload_n 1, 1) := by decide +kernel
theorem dX4_checksum_78 : decode cX4_checksum 78 = .ok (.invokevirtual 240, 3) := by decide +kernel
theorem dX4_checksum_81 : decode cX4_checksum 81 = .ok (.lstore_n 1, 1) := by decide +kernel
theorem dX4_checksum_82 : decode cX4_checksum 82 = .ok (.iinc 3 1, 3) := by decide +kernel
theorem dX4_checksum_85 : decode cX4_checksum 85 = .ok (.goto (-23), 3) := by decide +kernel
theorem dX4_checksum_88 : decode cX4_checksum 88 = .ok (.lload_n 1, 1) := by decide +kernel
theorem dX4_checksum_89 : decode cX4_checksum 89 = .ok (.lreturn, 1) := by decide +kernel
theorem dX4_isSound_0 : decode cX4_isSound 0 = .ok (.aload_n 0, 1) := by decide +kernel
theorem dX4_isSound_1 : decode cX4_isSound 1 = .ok (.invokevirtual 241, 3) := by decide +kernel
theorem dX4_isSound_4 : decode cX4_isSound 4 = .ok (.ifCond .eq 35, 3) := by decide +kernel
theorem dX4_isSound_7 : decode cX4_isSound 7 = .ok (.aload_n 0, 1) := by decide +kernel
theorem dX4_isSound_8 : decode cX4_isSound 8 = .ok (.invokevirtual 245, 3) := by decide +kernel
theorem dX4_isSound_11 : decode cX4_isSound 11 = .ok (.ifCond .eq 28, 3) := by decide +kernel
theorem dX4_isSound_14 : decode cX4_isSound 14 = .ok (.aload_n 0, 1) := by decide +kernel
theorem dX4_isSound_15 : decode cX4_isSound 15 = .ok (.invokevirtual 248, 3) := by decide +kernel
theorem dX4_isSound_18 : decode cX4_isSound 18 = .ok (.ifCond .eq 21, 3) := by decide +kernel
theorem dX4_isSound_21 : decode cX4_isSound 21 = .ok (.aload_n 0, 1) := by decide +kernel
theorem dX4_isSound_22 : decode cX4_isSound 22 = .ok (.invokevirtual 251, 3) := by decide +kernel
theorem dX4_isSound_25 : decode cX4_isSound 25 = .ok (.ifCond .eq 14, 3) := by decide +kernel
theorem dX4_isSound_28 : decode cX4_isSound 28 = .ok (.aload_n 0, 1) := by decide +kernel
theorem dX4_isSound_29 : decode cX4_isSound 29 = .ok (.invokevirtual 254, 3) := by decide +kernel
theorem dX4_isSound_32 : decode cX4_isSound 32 = .ok (.ifCond .eq 7, 3) := by decide +kernel
theorem dX4_isSound_35 : decode cX4_isSound 35 = .ok (.iconst 1, 1) := by decide +kernel
theorem dX4_isSound_36 : decode cX4_isSound 36 = .ok (.goto 4, 3) := by decide +kernel
theorem dX4_isSound_39 : decode cX4_isSound 39 = .ok (.iconst 0, 1) := by decide +kernel
theorem dX4_isSound_40 : decode cX4_isSound 40 = .ok (.ireturn, 1) := by decide +kernel
theorem dX4_areMapsSound_0 : decode cX4_areMapsSound 0 = .ok (.iconst 0, 1) := by decide +kernel
theorem dX4_areMapsSound_1 : decode cX4_areMapsSound 1 = .ok (.istore_n 1, 1) := by decide +kernel
theorem dX4_areMapsSound_2 : decode cX4_areMapsSound 2 = .ok (.iload_n 1, 1) := by decide +kernel
theorem dX4_areMapsSound_3 : decode cX4_areMapsSound 3 = .ok (.aload_n 0, 1) := by decide +kernel
theorem dX4_areMapsSound_4 : decode cX4_areMapsSound 4 = .ok (.getfield 11, 3) := by decide +kernel
theorem dX4_areMapsSound_7 : decode cX4_areMapsSound 7 = .ok (.arraylength, 1) := by decide +kernel
theorem dX4_areMapsSound_8 : decode cX4_areMapsSound 8 = .ok (.if_icmp .ge 43, 3) := by decide +kernel
theorem dX4_areMapsSound_11 : decode cX4_areMapsSound 11 = .ok (.aload_n 0, 1) := by decide +kernel
theorem dX4_areMapsSound_12 : decode cX4_areMapsSound 12 = .ok (.getfield 30, 3) := by decide +kernel
theorem dX4_areMapsSound_15 : decode cX4_areMapsSound 15 = .ok (.aload_n 0, 1) := by decide +kernel
theorem dX4_areMapsSound_16 : decode cX4_areMapsSound 16 = .ok (.getfield 11, 3) := by decide +kernel
theorem dX4_areMapsSound_19 : decode cX4_areMapsSound 19 = .ok (.iload_n 1, 1) := by decide +kernel
theorem dX4_areMapsSound_20 : decode cX4_areMapsSound 20 = .ok (.aaload, 1) := by decide +kernel
theorem dX4_areMapsSound_21 : decode cX4_areMapsSound 21 = .ok (.invokevirtual 257, 3) := by decide +kernel
theorem dX4_areMapsSound_24 : decode cX4_areMapsSound 24 = .ok (.ifCond .eq 19, 3) := by decide +kernel
theorem dX4_areMapsSound_27 : decode cX4_areMapsSound 27 = .ok (.aload_n 0, 1) := by decide +kernel
theorem dX4_areMapsSound_28 : decode cX4_areMapsSound 28 = .ok (.getfield 30, 3) := by decide +kernel
theorem dX4_areMapsSound_31 : decode cX4_areMapsSound 31 = .ok (.aload_n 0, 1) := by decide +kernel
theorem dX4_areMapsSound_32 : decode cX4_areMapsSound 32 = .ok (.getfield 11, 3) := by decide +kernel
theorem dX4_areMapsSound_35 : decode cX4_areMapsSound 35 = .ok (.iload_n 1, 1) := by decide +kernel
theorem dX4_areMapsSound_36 : decode cX4_areMapsSound 36 = .ok (.aaload, 1) := by decide +kernel
theorem dX4_areMapsSound_37 : decode cX4_areMapsSound 37 = .ok (.invokevirtual 260, 3) := by decide +kernel
theorem dX4_areMapsSound_40 : decode cX4_areMapsSound 40 = .ok (.ifCond .ne 5, 3) := by decide +kernel
theorem dX4_areMapsSound_43 : decode cX4_areMapsSound 43 = .ok (.iconst 0, 1) := by decide +kernel
theorem dX4_areMapsSound_44 : decode cX4_areMapsSound 44 = .ok (.ireturn, 1) := by decide +kernel
theorem dX4_areMapsSound_45 : decode cX4_areMapsSound 45 = .ok (.iinc 1 1, 3) := by decide +kernel
theorem dX4_areMapsSound_48 : decode cX4_areMapsSound 48 = .ok (.goto (-46), 3) := by decide +kernel
theorem dX4_areMapsSound_51 : decode cX4_areMapsSound 51 = .ok (.iconst 1, 1) := by decide +kernel
theorem dX4_areMapsSound_52 : decode cX4_areMapsSound 52 = .ok (.ireturn, 1) := by decide +kernel
theorem dX4_areViewsSound_0 : decode cX4_areViewsSound 0 = .ok (.iconst 0, 1) := by decide +kernel
theorem dX4_areViewsSound_1 : decode cX4_areViewsSound 1 = .ok (.istore_n 1, 1) := by decide +kernel
theorem dX4_areViewsSound_2 : decode cX4_areViewsSound 2 = .ok (.iload_n 1, 1) := by decide +kernel
theorem dX4_areViewsSound_3 : decode cX4_areViewsSound 3 = .ok (.aload_n 0, 1) := by decide +kernel
theorem dX4_areViewsSound_4 : decode cX4_areViewsSound 4 = .ok (.getfield 17, 3) := by decide +kernel
theorem dX4_areViewsSound_7 : decode cX4_areViewsSound 7 = .ok (.arraylength, 1) := by decide +kernel
theorem dX4_areViewsSound_8 : decode cX4_areViewsSound 8 = .ok (.if_icmp .ge 23, 3) := by decide +kernel
theorem dX4_areViewsSound_11 : decode cX4_areViewsSound 11 = .ok (.aload_n 0, 1) := by decide +kernel
theorem dX4_areViewsSound_12 : decode cX4_areViewsSound 12 = .ok (.getfield 17, 3) := by decide +kernel
theorem dX4_areViewsSound_15 : decode cX4_areViewsSound 15 = .ok (.iload_n 1, 1) := by decide +kernel
theorem dX4_areViewsSound_16 : decode cX4_areViewsSound 16 = .ok (.aaload, 1) := by decide +kernel
theorem dX4_areViewsSound_17 : decode cX4_areViewsSound 17 = .ok (.invokevirtual 263, 3) := by decide +kernel
theorem dX4_areViewsSound_20 : decode cX4_areViewsSound 20 = .ok (.ifCond .ne 5, 3) := by decide +kernel
theorem dX4_areViewsSound_23 : decode cX4_areViewsSound 23 = .ok (.iconst 0, 1) := by decide +kernel
theorem dX4_areViewsSound_24 : decode cX4_areViewsSound 24 = .ok (.ireturn, 1) := by decide +kernel
theorem dX4_areViewsSound_25 : decode cX4_areViewsSound 25 = .ok (.iinc 1 1, 3) := by decide +kernel
theorem dX4_areViewsSound_28 : decode cX4_areViewsSound 28 = .ok (.goto (-26), 3) := by decide +kernel
theorem dX4_areViewsSound_31 : decode cX4_areViewsSound 31 = .ok (.iconst 1, 1) := by decide +kernel
theorem dX4_areViewsSound_32 : decode cX4_areViewsSound 32 = .ok (.ireturn, 1) := by decide +kernel
theorem dX4_areOrdersFree_0 : decode cX4_areOrdersFree 0 = .ok (.iconst 0, 1) := by decide +kernel
theorem dX4_areOrdersFree_1 : decode cX4_areOrdersFree 1 = .ok (.istore_n 1, 1) := by decide +kernel
theorem dX4_areOrdersFree_2 : decode cX4_areOrdersFree 2 = .ok (.iload_n 1, 1) := by decide +kernel
theorem dX4_areOrdersFree_3 : decode cX4_areOrdersFree 3 = .ok (.aload_n 0, 1) := by decide +kernel
theorem dX4_areOrdersFree_4 : decode cX4_areOrdersFree 4 = .ok (.getfield 23, 3) := by decide +kernel
theorem dX4_areOrdersFree_7 : decode cX4_areOrdersFree 7 = .ok (.arraylength, 1) := by decide +kernel
theorem dX4_areOrdersFree_8 : decode cX4_areOrdersFree 8 = .ok (.if_icmp .ge 75, 3) := by decide +kernel
theorem dX4_areOrdersFree_11 : decode cX4_areOrdersFree 11 = .ok (.iload_n 1, 1) := by decide +kernel
theorem dX4_areOrdersFree_12 : decode cX4_areOrdersFree 12 = .ok (.iconst 1, 1) := by decide +kernel
theorem dX4_areOrdersFree_13 : decode cX4_areOrdersFree 13 = .ok (.iadd, 1) := by decide +kernel
theorem dX4_areOrdersFree_14 : decode cX4_areOrdersFree 14 = .ok (.istore_n 2, 1) := by decide +kernel
theorem dX4_areOrdersFree_15 : decode cX4_areOrdersFree 15 = .ok (.iload_n 2, 1) := by decide +kernel
theorem dX4_areOrdersFree_16 : decode cX4_areOrdersFree 16 = .ok (.aload_n 0, 1) := by decide +kernel
theorem dX4_areOrdersFree_17 : decode cX4_areOrdersFree 17 = .ok (.getfield 23, 3) := by decide +kernel
theorem dX4_areOrdersFree_20 : decode cX4_areOrdersFree 20 = .ok (.arraylength, 1) := by decide +kernel
theorem dX4_areOrdersFree_21 : decode cX4_areOrdersFree 21 = .ok (.if_icmp .ge 56, 3) := by decide +kernel
theorem dX4_areOrdersFree_24 : decode cX4_areOrdersFree 24 = .ok (.iconst 0, 1) := by decide +kernel
theorem dX4_areOrdersFree_25 : decode cX4_areOrdersFree 25 = .ok (.istore_n 3, 1) := by decide +kernel
theorem dX4_areOrdersFree_26 : decode cX4_areOrdersFree 26 = .ok (.iload_n 3, 1) := by decide +kernel
theorem dX4_areOrdersFree_27 : decode cX4_areOrdersFree 27 = .ok (.aload_n 0, 1) := by decide +kernel
theorem dX4_areOrdersFree_28 : decode cX4_areOrdersFree 28 = .ok (.getfield 11, 3) := by decide +kernel
theorem dX4_areOrdersFree_31 : decode cX4_areOrdersFree 31 = .ok (.arraylength, 1) := by decide +kernel
theorem dX4_areOrdersFree_32 : decode cX4_areOrdersFree 32 = .ok (.if_icmp .ge 39, 3) := by decide +kernel
theorem dX4_areOrdersFree_35 : decode cX4_areOrdersFree 35 = .ok (.aload_n 0, 1) := by decide +kernel
theorem dX4_areOrdersFree_36 : decode cX4_areOrdersFree 36 = .ok (.getfield 30, 3) := by decide +kernel
theorem dX4_areOrdersFree_39 : decode cX4_areOrdersFree 39 = .ok (.aload_n 0, 1) := by decide +kernel
theorem dX4_areOrdersFree_40 : decode cX4_areOrdersFree 40 = .ok (.getfield 23, 3) := by decide +kernel
theorem dX4_areOrdersFree_43 : decode cX4_areOrdersFree 43 = .ok (.iload_n 1, 1) := by decide +kernel
theorem dX4_areOrdersFree_44 : decode cX4_areOrdersFree 44 = .ok (.aaload, 1) := by decide +kernel
theorem dX4_areOrdersFree_45 : decode cX4_areOrdersFree 45 = .ok (.aload_n 0, 1) := by decide +kernel
theorem dX4_areOrdersFree_46 : decode cX4_areOrdersFree 46 = .ok (.getfield 23, 3) := by decide +kernel
theorem dX4_areOrdersFree_49 : decode cX4_areOrdersFree 49 = .ok (.iload_n 2, 1) := by decide +kernel
theorem dX4_areOrdersFree_50 : decode cX4_areOrdersFree 50 = .ok (.aaload, 1) := by decide +kernel
theorem dX4_areOrdersFree_51 : decode cX4_areOrdersFree 51 = .ok (.aload_n 0, 1) := by decide +kernel
theorem dX4_areOrdersFree_52 : decode cX4_areOrdersFree 52 = .ok (.getfield 11, 3) := by decide +kernel
theorem dX4_areOrdersFree_55 : decode cX4_areOrdersFree 55 = .ok (.iload_n 3, 1) := by decide +kernel
theorem dX4_areOrdersFree_56 : decode cX4_areOrdersFree 56 = .ok (.aaload, 1) := by decide +kernel
theorem dX4_areOrdersFree_57 : decode cX4_areOrdersFree 57 = .ok (.invokevirtual 266, 3) := by decide +kernel
theorem dX4_areOrdersFree_60 : decode cX4_areOrdersFree 60 = .ok (.ifCond .ne 5, 3) := by decide +kernel
theorem dX4_areOrdersFree_63 : decode cX4_areOrdersFree 63 = .ok (.iconst 0, 1) := by decide +kernel
theorem dX4_areOrdersFree_64 : decode cX4_areOrdersFree 64 = .ok (.ireturn, 1) := by decide +kernel
theorem dX4_areOrdersFree_65 : decode cX4_areOrdersFree 65 = .ok (.iinc 3 1, 3) := by decide +kernel
theorem dX4_areOrdersFree_68 : decode cX4_areOrdersFree 68 = .ok (.goto (-42), 3) := by decide +kernel
theorem dX4_areOrdersFree_71 : decode cX4_areOrdersFree 71 = .ok (.iinc 2 1, 3) := by decide +kernel
theorem dX4_areOrdersFree_74 : decode cX4_areOrdersFree 74 = .ok (.goto (-59), 3) := by decide +kernel
theorem dX4_areOrdersFree_77 : decode cX4_areOrdersFree 77 = .ok (.iinc 1 1, 3) := by decide +kernel
theorem dX4_areOrdersFree_80 : decode cX4_areOrdersFree 80 = .ok (.goto (-78), 3) := by decide +kernel
theorem dX4_areOrdersFree_83 : decode cX4_areOrdersFree 83 = .ok (.iconst 1, 1) := by decide +kernel
theorem dX4_areOrdersFree_84 : decode cX4_areOrdersFree 84 = .ok (.ireturn, 1) := by decide +kernel
theorem dX4_areOppositesSound_0 : decode cX4_areOppositesSound 0 = .ok (.iconst 0, 1) := by decide +kernel
theorem dX4_areOppositesSound_1 : decode cX4_areOppositesSound 1 = .ok (.istore_n 1, 1) := by decide +kernel
theorem dX4_areOppositesSound_2 : decode cX4_areOppositesSound 2 = .ok (.iload_n 1, 1) := by decide +kernel
theorem dX4_areOppositesSound_3 : decode cX4_areOppositesSound 3 = .ok (.aload_n 0, 1) := by decide +kernel
theorem dX4_areOppositesSound_4 : decode cX4_areOppositesSound 4 = .ok (.getfield 23, 3) := by decide +kernel
theorem dX4_areOppositesSound_7 : decode cX4_areOppositesSound 7 = .ok (.arraylength, 1) := by decide +kernel
theorem dX4_areOppositesSound_8 : decode cX4_areOppositesSound 8 = .ok (.if_icmp .ge 50, 3) := by decide +kernel
theorem dX4_areOppositesSound_11 : decode cX4_areOppositesSound 11 = .ok (.iconst 0, 1) := by decide +kernel
theorem dX4_areOppositesSound_12 : decode cX4_areOppositesSound 12 = .ok (.istore_n 2, 1) := by decide +kernel
theorem dX4_areOppositesSound_13 : decode cX4_areOppositesSound 13 = .ok (.iload_n 2, 1) := by decide +kernel
theorem dX4_areOppositesSound_14 : decode cX4_areOppositesSound 14 = .ok (.aload_n 0, 1) := by decide +kernel
theorem dX4_areOppositesSound_15 : decode cX4_areOppositesSound 15 = .ok (.getfield 11, 3) := by decide +kernel
theorem dX4_areOppositesSound_18 : decode cX4_areOppositesSound 18 = .ok (.arraylength, 1) := by decide +kernel
theorem dX4_areOppositesSound_19 : decode cX4_areOppositesSound 19 = .ok (.if_icmp .ge 33, 3) := by decide +kernel
theorem dX4_areOppositesSound_22 : decode cX4_areOppositesSound 22 = .ok (.aload_n 0, 1) := by decide +kernel
theorem dX4_areOppositesSound_23 : decode cX4_areOppositesSound 23 = .ok (.getfield 30, 3) := by decide +kernel
theorem dX4_areOppositesSound_26 : decode cX4_areOppositesSound 26 = .ok (.aload_n 0, 1) := by decide +kernel
theorem dX4_areOppositesSound_27 : decode cX4_areOppositesSound 27 = .ok (.getfield 23, 3) := by decide +kernel
theorem dX4_areOppositesSound_30 : decode cX4_areOppositesSound 30 = .ok (.iload_n 1, 1) := by decide +kernel
theorem dX4_areOppositesSound_31 : decode cX4_areOppositesSound 31 = .ok (.aaload, 1) := by decide +kernel
theorem dX4_areOppositesSound_32 : decode cX4_areOppositesSound 32 = .ok (.aload_n 0, 1) := by decide +kernel
theorem dX4_areOppositesSound_33 : decode cX4_areOppositesSound 33 = .ok (.getfield 11, 3) := by decide +kernel
theorem dX4_areOppositesSound_36 : decode cX4_areOppositesSound 36 = .ok (.iload_n 2, 1) := by decide +kernel
theorem dX4_areOppositesSound_37 : decode cX4_areOppositesSound 37 = .ok (.aaload, 1) := by decide +kernel
theorem dX4_areOppositesSound_38 : decode cX4_areOppositesSound 38 = .ok (.invokevirtual 270, 3) := by decide +kernel
theorem dX4_areOppositesSound_41 : decode cX4_areOppositesSound 41 = .ok (.ifCond .ne 5, 3) := by decide +kernel
theorem dX4_areOppositesSound_44 : decode cX4_areOppositesSound 44 = .ok (.iconst 0, 1) := by decide +kernel
theorem dX4_areOppositesSound_45 : decode cX4_areOppositesSound 45 = .ok (.ireturn, 1) := by decide +kernel
theorem dX4_areOppositesSound_46 : decode cX4_areOppositesSound 46 = .ok (.iinc 2 1, 3) := by decide +kernel
theorem dX4_areOppositesSound_49 : decode cX4_areOppositesSound 49 = .ok (.goto (-36), 3) := by decide +kernel
theorem dX4_areOppositesSound_52 : decode cX4_areOppositesSound 52 = .ok (.iinc 1 1, 3) := by decide +kernel
theorem dX4_areOppositesSound_55 : decode cX4_areOppositesSound 55 = .ok (.goto (-53), 3) := by decide +kernel
theorem dX4_areOppositesSound_58 : decode cX4_areOppositesSound 58 = .ok (.iconst 1, 1) := by decide +kernel
theorem dX4_areOppositesSound_59 : decode cX4_areOppositesSound 59 = .ok (.ireturn, 1) := by decide +kernel
theorem dX4_areMixesSound_0 : decode cX4_areMixesSound 0 = .ok (.iconst 0, 1) := by decide +kernel
theorem dX4_areMixesSound_1 : decode cX4_areMixesSound 1 = .ok (.istore_n 1, 1) := by decide +kernel
theorem dX4_areMixesSound_2 : decode cX4_areMixesSound 2 = .ok (.iload_n 1, 1) := by decide +kernel
theorem dX4_areMixesSound_3 : decode cX4_areMixesSound 3 = .ok (.aload_n 0, 1) := by decide +kernel
theorem dX4_areMixesSound_4 : decode cX4_areMixesSound 4 = .ok (.getfield 11, 3) := by decide +kernel
theorem dX4_areMixesSound_7 : decode cX4_areMixesSound 7 = .ok (.arraylength, 1) := by decide +kernel
theorem dX4_areMixesSound_8 : decode cX4_areMixesSound 8 = .ok (.if_icmp .ge 102, 3) := by decide +kernel
theorem dX4_areMixesSound_11 : decode cX4_areMixesSound 11 = .ok (.iload_n 1, 1) := by decide +kernel
theorem dX4_areMixesSound_12 : decode cX4_areMixesSound 12 = .ok (.iconst 1, 1) := by decide +kernel
theorem dX4_areMixesSound_13 : decode cX4_areMixesSound 13 = .ok (.iadd, 1) := by decide +kernel
theorem dX4_areMixesSound_14 : decode cX4_areMixesSound 14 = .ok (.istore_n 2, 1) := by decide +kernel
theorem dX4_areMixesSound_15 : decode cX4_areMixesSound 15 = .ok (.iload_n 2, 1) := by decide +kernel
theorem dX4_areMixesSound_16 : decode cX4_areMixesSound 16 = .ok (.aload_n 0, 1) := by decide +kernel
theorem dX4_areMixesSound_17 : decode cX4_areMixesSound 17 = .ok (.getfield 11, 3) := by decide +kernel
theorem dX4_areMixesSound_20 : decode cX4_areMixesSound 20 = .ok (.arraylength, 1) := by decide +kernel
theorem dX4_areMixesSound_21 : decode cX4_areMixesSound 21 = .ok (.if_icmp .ge 83, 3) := by decide +kernel
theorem dX4_areMixesSound_24 : decode cX4_areMixesSound 24 = .ok (.aload_n 0, 1) := by decide +kernel
theorem dX4_areMixesSound_25 : decode cX4_areMixesSound 25 = .ok (.getfield 30, 3) := by decide +kernel
theorem dX4_areMixesSound_28 : decode cX4_areMixesSound 28 = .ok (.aload_n 0, 1) := by decide +kernel
theorem dX4_areMixesSound_29 : decode cX4_areMixesSound 29 = .ok (.getfield 11, 3) := by decide +kernel
theorem dX4_areMixesSound_32 : decode cX4_areMixesSound 32 = .ok (.iload_n 1, 1) := by decide +kernel
theorem dX4_areMixesSound_33 : decode cX4_areMixesSound 33 = .ok (.aaload, 1) := by decide +kernel
theorem dX4_areMixesSound_34 : decode cX4_areMixesSound 34 = .ok (.aload_n 0, 1) := by decide +kernel
theorem dX4_areMixesSound_35 : decode cX4_areMixesSound 35 = .ok (.getfield 11, 3) := by decide +kernel
theorem dX4_areMixesSound_38 : decode cX4_areMixesSound 38 = .ok (.iload_n 2, 1) := by decide +kernel
theorem dX4_areMixesSound_39 : decode cX4_areMixesSound 39 = .ok (.aaload, 1) := by decide +kernel
theorem dX4_areMixesSound_40 : decode cX4_areMixesSound 40 = .ok (.bipush 115, 2) := by decide +kernel
theorem dX4_areMixesSound_42 : decode cX4_areMixesSound 42 = .ok (.invokevirtual 274, 3) := by decide +kernel
theorem dX4_areMixesSound_45 : decode cX4_areMixesSound 45 = .ok (.ifCond .eq 51, 3) := by decide +kernel
theorem dX4_areMixesSound_48 : decode cX4_areMixesSound 48 = .ok (.aload_n 0, 1) := by decide +kernel
theorem dX4_areMixesSound_49 : decode cX4_areMixesSound 49 = .ok (.getfield 30, 3) := by decide +kernel
theorem dX4_areMixesSound_52 : decode cX4_areMixesSound 52 = .ok (.aload_n 0, 1) := by decide +kernel
theorem dX4_areMixesSound_53 : decode cX4_areMixesSound 53 = .ok (.getfield 11, 3) := by decide +kernel
theorem dX4_areMixesSound_56 : decode cX4_areMixesSound 56 = .ok (.iload_n 1, 1) := by decide +kernel
theorem dX4_areMixesSound_57 : decode cX4_areMixesSound 57 = .ok (.aaload, 1) := by decide +kernel
theorem dX4_areMixesSound_58 : decode cX4_areMixesSound 58 = .ok (.aload_n 0, 1) := by decide +kernel
theorem dX4_areMixesSound_59 : decode cX4_areMixesSound 59 = .ok (.getfield 11, 3) := by decide +kernel
theorem dX4_areMixesSound_62 : decode cX4_areMixesSound 62 = .ok (.iload_n 2, 1) := by decide +kernel
theorem dX4_areMixesSound_63 : decode cX4_areMixesSound 63 = .ok (.aaload, 1) := by decide +kernel
theorem dX4_areMixesSound_64 : decode cX4_areMixesSound 64 = .ok (.bipush 103, 2) := by decide +kernel
theorem dX4_areMixesSound_66 : decode cX4_areMixesSound 66 = .ok (.invokevirtual 274, 3) := by decide +kernel
theorem dX4_areMixesSound_69 : decode cX4_areMixesSound 69 = .ok (.ifCond .eq 27, 3) := by decide +kernel
theorem dX4_areMixesSound_72 : decode cX4_areMixesSound 72 = .ok (.aload_n 0, 1) := by decide +kernel
theorem dX4_areMixesSound_73 : decode cX4_areMixesSound 73 = .ok (.getfield 30, 3) := by decide +kernel
theorem dX4_areMixesSound_76 : decode cX4_areMixesSound 76 = .ok (.aload_n 0, 1) := by decide +kernel
theorem dX4_areMixesSound_77 : decode cX4_areMixesSound 77 = .ok (.getfield 11, 3) := by decide +kernel
theorem dX4_areMixesSound_80 : decode cX4_areMixesSound 80 = .ok (.iload_n 1, 1) := by decide +kernel
theorem dX4_areMixesSound_81 : decode cX4_areMixesSound 81 = .ok (.aaload, 1) := by decide +kernel
theorem dX4_areMixesSound_82 : decode cX4_areMixesSound 82 = .ok (.aload_n 0, 1) := by decide +kernel
theorem dX4_areMixesSound_83 : decode cX4_areMixesSound 83 = .ok (.getfield 11, 3) := by decide +kernel
theorem dX4_areMixesSound_86 : decode cX4_areMixesSound 86 = .ok (.iload_n 2, 1) := by decide +kernel
theorem dX4_areMixesSound_87 : decode cX4_areMixesSound 87 = .ok (.aaload, 1) := by decide +kernel
theorem dX4_areMixesSound_88 : decode cX4_areMixesSound 88 = .ok (.bipush 108, 2) := by decide +kernel
theorem dX4_areMixesSound_90 : decode cX4_areMixesSound 90 = .ok (.invokevirtual 274, 3) := by decide +kernel
theorem dX4_areMixesSound_93 : decode cX4_areMixesSound 93 = .ok (.ifCond .ne 5, 3) := by decide +kernel
theorem dX4_areMixesSound_96 : decode cX4_areMixesSound 96 = .ok (.iconst 0, 1) := by decide +kernel
theorem dX4_areMixesSound_97 : decode cX4_areMixesSound 97 = .ok (.ireturn, 1) := by decide +kernel
theorem dX4_areMixesSound_98 : decode cX4_areMixesSound 98 = .ok (.iinc 2 1, 3) := by decide +kernel
theorem dX4_areMixesSound_101 : decode cX4_areMixesSound 101 = .ok (.goto (-86), 3) := by decide +kernel
theorem dX4_areMixesSound_104 : decode cX4_areMixesSound 104 = .ok (.iinc 1 1, 3) := by decide +kernel
theorem dX4_areMixesSound_107 : decode cX4_areMixesSound 107 = .ok (.goto (-105), 3) := by decide +kernel
theorem dX4_areMixesSound_110 : decode cX4_areMixesSound 110 = .ok (.iconst 1, 1) := by decide +kernel
theorem dX4_areMixesSound_111 : decode cX4_areMixesSound 111 = .ok (.ireturn, 1) := by decide +kernel
theorem dX4_mapAt_0 : decode cX4_mapAt 0 = .ok (.iload_n 1, 1) := by decide +kernel
theorem dX4_mapAt_1 : decode cX4_mapAt 1 = .ok (.ifCond .lt 12, 3) := by decide +kernel
theorem dX4_mapAt_4 : decode cX4_mapAt 4 = .ok (.iload_n 1, 1) := by decide +kernel
theorem dX4_mapAt_5 : decode cX4_mapAt 5 = .ok (.aload_n 0, 1) := by decide +kernel
theorem dX4_mapAt_6 : decode cX4_mapAt 6 = .ok (.getfield 11, 3) := by decide +kernel
theorem dX4_mapAt_9 : decode cX4_mapAt 9 = .ok (.arraylength, 1) := by decide +kernel
theorem dX4_mapAt_10 : decode cX4_mapAt 10 = .ok (.if_icmp .lt 14, 3) := by decide +kernel
theorem dX4_mapAt_13 : decode cX4_mapAt 13 = .ok (.new 109, 3) := by decide +kernel
theorem dX4_mapAt_16 : decode cX4_mapAt 16 = .ok (.dup, 1) := by decide +kernel
theorem dX4_mapAt_17 : decode cX4_mapAt 17 = .ok (.ldc_w 278, 3) := by decide +kernel
theorem dX4_mapAt_20 : decode cX4_mapAt 20 = .ok (.invokespecial 113, 3) := by decide +kernel
theorem dX4_mapAt_23 : decode cX4_mapAt 23 = .ok (.athrow, 1) := by decide +kernel
theorem dX4_mapAt_24 : decode cX4_mapAt 24 = .ok (.aload_n 0, 1) := by decide +kernel
theorem dX4_mapAt_25 : decode cX4_mapAt 25 = .ok (.getfield 11, 3) := by decide +kernel
theorem dX4_mapAt_28 : decode cX4_mapAt 28 = .ok (.iload_n 1, 1) := by decide +kernel
theorem dX4_mapAt_29 : decode cX4_mapAt 29 = .ok (.aaload, 1) := by decide +kernel
theorem dX4_mapAt_30 : decode cX4_mapAt 30 = .ok (.areturn, 1) := by decide +kernel
theorem dX4_viewAt_0 : decode cX4_viewAt 0 = .ok (.iload_n 1, 1) := by decide +kernel
theorem dX4_viewAt_1 : decode cX4_viewAt 1 = .ok (.ifCond .lt 12, 3) := by decide +kernel
theorem dX4_viewAt_4 : decode cX4_viewAt 4 = .ok (.iload_n 1, 1) := by decide +kernel
theorem dX4_viewAt_5 : decode cX4_viewAt 5 = .ok (.aload_n 0, 1) := by decide +kernel
theorem dX4_viewAt_6 : decode cX4_viewAt 6 = .ok (.getfield 17, 3) := by decide +kernel
theorem dX4_viewAt_9 : decode cX4_viewAt 9 = .ok (.arraylength, 1) := by decide +kernel
theorem dX4_viewAt_10 : decode cX4_viewAt 10 = .ok (.if_icmp .lt 14, 3) := by decide +kernel
theorem dX4_viewAt_13 : decode cX4_viewAt 13 = .ok (.new 109, 3) := by decide +kernel
theorem dX4_viewAt_16 : decode cX4_viewAt 16 = .ok (.dup, 1) := by decide +kernel
theorem dX4_viewAt_17 : decode cX4_viewAt 17 = .ok (.ldc_w 280, 3) := by decide +kernel
theorem dX4_viewAt_20 : decode cX4_viewAt 20 = .ok (.invokespecial 113, 3) := by decide +kernel
theorem dX4_viewAt_23 : decode cX4_viewAt 23 = .ok (.athrow, 1) := by decide +kernel
theorem dX4_viewAt_24 : decode cX4_viewAt 24 = .ok (.aload_n 0, 1) := by decide +kernel
theorem dX4_viewAt_25 : decode cX4_viewAt 25 = .ok (.getfield 17, 3) := by decide +kernel
theorem dX4_viewAt_28 : decode cX4_viewAt 28 = .ok (.iload_n 1, 1) := by decide +kernel
theorem dX4_viewAt_29 : decode cX4_viewAt 29 = .ok (.aaload, 1) := by decide +kernel
theorem dX4_viewAt_30 : decode cX4_viewAt 30 = .ok (.areturn, 1) := by decide +kernel
theorem dX4_historyAt_0 : decode cX4_historyAt 0 = .ok (.iload_n 1, 1) := by decide +kernel
theorem dX4_historyAt_1 : decode cX4_historyAt 1 = .ok (.ifCond .lt 12, 3) := by decide +kernel
theorem dX4_historyAt_4 : decode cX4_historyAt 4 = .ok (.iload_n 1, 1) := by decide +kernel
theorem dX4_historyAt_5 : decode cX4_historyAt 5 = .ok (.aload_n 0, 1) := by decide +kernel
theorem dX4_historyAt_6 : decode cX4_historyAt 6 = .ok (.getfield 23, 3) := by decide +kernel
theorem dX4_historyAt_9 : decode cX4_historyAt 9 = .ok (.arraylength, 1) := by decide +kernel
theorem dX4_historyAt_10 : decode cX4_historyAt 10 = .ok (.if_icmp .lt 14, 3) := by decide +kernel
theorem dX4_historyAt_13 : decode cX4_historyAt 13 = .ok (.new 109, 3) := by decide +kernel
theorem dX4_historyAt_16 : decode cX4_historyAt 16 = .ok (.dup, 1) := by decide +kernel
theorem dX4_historyAt_17 : decode cX4_historyAt 17 = .ok (.ldc_w 282, 3) := by decide +kernel
theorem dX4_historyAt_20 : decode cX4_historyAt 20 = .ok (.invokespecial 113, 3) := by decide +kernel
theorem dX4_historyAt_23 : decode cX4_historyAt 23 = .ok (.athrow, 1) := by decide +kernel
theorem dX4_historyAt_24 : decode cX4_historyAt 24 = .ok (.aload_n 0, 1) := by decide +kernel
theorem dX4_historyAt_25 : decode cX4_historyAt 25 = .ok (.getfield 23, 3) := by decide +kernel
theorem dX4_historyAt_28 : decode cX4_historyAt 28 = .ok (.iload_n 1, 1) := by decide +kernel
theorem dX4_historyAt_29 : decode cX4_historyAt 29 = .ok (.aaload, 1) := by decide +kernel
theorem dX4_historyAt_30 : decode cX4_historyAt 30 = .ok (.areturn, 1) := by decide +kernel
theorem dX4_refuseClosed_0 : decode cX4_refuseClosed 0 = .ok (.aload_n 0, 1) := by decide +kernel
theorem dX4_refuseClosed_1 : decode cX4_refuseClosed 1 = .ok (.getfield 284, 3) := by decide +kernel
theorem dX4_refuseClosed_4 : decode cX4_refuseClosed 4 = .ok (.ifnonnull 14, 3) := by decide +kernel
theorem dX4_refuseClosed_7 : decode cX4_refuseClosed 7 = .ok (.new 57, 3) := by decide +kernel
theorem dX4_refuseClosed_10 : decode cX4_refuseClosed 10 = .ok (.dup, 1) := by decide +kernel
theorem dX4_refuseClosed_11 : decode cX4_refuseClosed 11 = .ok (.ldc_w 288, 3) := by decide +kernel
theorem dX4_refuseClosed_14 : decode cX4_refuseClosed 14 = .ok (.invokespecial 61, 3) := by decide +kernel
theorem dX4_refuseClosed_17 : decode cX4_refuseClosed 17 = .ok (.athrow, 1) := by decide +kernel
theorem dX4_refuseClosed_18 : decode cX4_refuseClosed 18 = .ok (.return_, 1) := by decide +kernel
theorem dX4_sourceOf_0 : decode cX4_sourceOf 0 = .ok (.aload_n 0, 1) := by decide +kernel
theorem dX4_sourceOf_1 : decode cX4_sourceOf 1 = .ok (.invokestatic 134, 3) := by decide +kernel
theorem dX4_sourceOf_4 : decode cX4_sourceOf 4 = .ok (.aload_n 0, 1) := by decide +kernel
theorem dX4_sourceOf_5 : decode cX4_sourceOf 5 = .ok (.getfield 284, 3) := by decide +kernel
theorem dX4_sourceOf_8 : decode cX4_sourceOf 8 = .ok (.areturn, 1) := by decide +kernel
theorem dX4_endPlace_0 : decode cX4_endPlace 0 = .ok (.iload_n 0, 1) := by decide +kernel
theorem dX4_endPlace_1 : decode cX4_endPlace 1 = .ok (.iload_n 1, 1) := by decide +kernel
theorem dX4_endPlace_2 : decode cX4_endPlace 2 = .ok (.if_icmp .lt 14, 3) := by decide +kernel
theorem dX4_endPlace_5 : decode cX4_endPlace 5 = .ok (.new 57, 3) := by decide +kernel
theorem dX4_endPlace_8 : decode cX4_endPlace 8 = .ok (.dup, 1) := by decide +kernel
theorem dX4_endPlace_9 : decode cX4_endPlace 9 = .ok (.ldc_w 290, 3) := by decide +kernel
theorem dX4_endPlace_12 : decode cX4_endPlace 12 = .ok (.invokespecial 61, 3) := by decide +kernel
theorem dX4_endPlace_15 : decode cX4_endPlace 15 = .ok (.athrow, 1) := by decide +kernel
theorem dX4_endPlace_16 : decode cX4_endPlace 16 = .ok (.iload_n 2, 1) := by decide +kernel
theorem dX4_endPlace_17 : decode cX4_endPlace 17 = .ok (.ifCond .eq 9, 3) := by decide +kernel
theorem dX4_endPlace_20 : decode cX4_endPlace 20 = .ok (.iload_n 1, 1) := by decide +kernel
theorem dX4_endPlace_21 : decode cX4_endPlace 21 = .ok (.iconst 1, 1) := by decide +kernel
theorem dX4_endPlace_22 : decode cX4_endPlace 22 = .ok (.isub, 1) := by decide +kernel
theorem dX4_endPlace_23 : decode cX4_endPlace 23 = .ok (.goto 4, 3) := by decide +kernel
theorem dX4_endPlace_26 : decode cX4_endPlace 26 = .ok (.iload_n 0, 1) := by decide +kernel
theorem dX4_endPlace_27 : decode cX4_endPlace 27 = .ok (.ireturn, 1) := by decide +kernel
theorem dX4_putWithin_0 : decode cX4_putWithin 0 = .ok (.aload_n 0, 1) := by decide +kernel
theorem dX4_putWithin_1 : decode cX4_putWithin 1 = .ok (.getfield 49, 3) := by decide +kernel
theorem dX4_putWithin_4 : decode cX4_putWithin 4 = .ok (.bipush 60, 2) := by decide +kernel
theorem dX4_putWithin_6 : decode cX4_putWithin 6 = .ok (.if_icmp .lt 22, 3) := by decide +kernel
theorem dX4_putWithin_9 : decode cX4_putWithin 9 = .ok (.aload_n 0, 1) := by decide +kernel
theorem dX4_putWithin_10 : decode cX4_putWithin 10 = .ok (.iload_n 1, 1) := by decide +kernel
theorem dX4_putWithin_11 : decode cX4_putWithin 11 = .ok (.invokevirtual 53, 3) := by decide +kernel
theorem dX4_putWithin_14 : decode cX4_putWithin 14 = .ok (.ifCond .ge 14, 3) := by decide +kernel
theorem dX4_putWithin_17 : decode cX4_putWithin 17 = .ok (.new 146, 3) := by decide +kernel
theorem dX4_putWithin_20 : decode cX4_putWithin 20 = .ok (.dup, 1) := by decide +kernel
theorem dX4_putWithin_21 : decode cX4_putWithin 21 = .ok (.ldc_w 292, 3) := by decide +kernel
theorem dX4_putWithin_24 : decode cX4_putWithin 24 = .ok (.invokespecial 150, 3) := by decide +kernel
theorem dX4_putWithin_27 : decode cX4_putWithin 27 = .ok (.athrow, 1) := by decide +kernel
theorem dX4_putWithin_28 : decode cX4_putWithin 28 = .ok (.aload_n 0, 1) := by decide +kernel
theorem dX4_putWithin_29 : decode cX4_putWithin 29 = .ok (.iload_n 1, 1) := by decide +kernel
theorem dX4_putWithin_30 : decode cX4_putWithin 30 = .ok (.iload_n 2, 1) := by decide +kernel
theorem dX4_putWithin_31 : decode cX4_putWithin 31 = .ok (.invokevirtual 294, 3) := by decide +kernel
theorem dX4_putWithin_34 : decode cX4_putWithin 34 = .ok (.pop, 1) := by decide +kernel
theorem dX4_putWithin_35 : decode cX4_putWithin 35 = .ok (.return_, 1) := by decide +kernel
theorem dX4_pollAt_0 : decode cX4_pollAt 0 = .ok (.aload_n 1, 1) := by decide +kernel
theorem dX4_pollAt_1 : decode cX4_pollAt 1 = .ok (.getfield 86, 3) := by decide +kernel
theorem dX4_pollAt_4 : decode cX4_pollAt 4 = .ok (.iload_n 2, 1) := by decide +kernel
theorem dX4_pollAt_5 : decode cX4_pollAt 5 = .ok (.iaload, 1) := by decide +kernel
theorem dX4_pollAt_6 : decode cX4_pollAt 6 = .ok (.istore_n 3, 1) := by decide +kernel
theorem dX4_pollAt_7 : decode cX4_pollAt 7 = .ok (.aload_n 0, 1) := by decide +kernel
theorem dX4_pollAt_8 : decode cX4_pollAt 8 = .ok (.aload_n 1, 1) := by decide +kernel
theorem dX4_pollAt_9 : decode cX4_pollAt 9 = .ok (.getfield 64, 3) := by decide +kernel
theorem dX4_pollAt_12 : decode cX4_pollAt 12 = .ok (.iload_n 2, 1) := by decide +kernel
theorem dX4_pollAt_13 : decode cX4_pollAt 13 = .ok (.iaload, 1) := by decide +kernel
theorem dX4_pollAt_14 : decode cX4_pollAt 14 = .ok (.putfield 103, 3) := by decide +kernel
theorem dX4_pollAt_17 : decode cX4_pollAt 17 = .ok (.aload_n 0, 1) := by decide +kernel
theorem dX4_pollAt_18 : decode cX4_pollAt 18 = .ok (.iconst 1, 1) := by decide +kernel
theorem dX4_pollAt_19 : decode cX4_pollAt 19 = .ok (.putfield 97, 3) := by decide +kernel
theorem dX4_pollAt_22 : decode cX4_pollAt 22 = .ok (.aload_n 1, 1) := by decide +kernel
theorem dX4_pollAt_23 : decode cX4_pollAt 23 = .ok (.iload_n 2, 1) := by decide +kernel
theorem dX4_pollAt_24 : decode cX4_pollAt 24 = .ok (.iload_n 2, 1) := by decide +kernel
theorem dX4_pollAt_25 : decode cX4_pollAt 25 = .ok (.iconst 1, 1) := by decide +kernel
theorem dX4_pollAt_26 : decode cX4_pollAt 26 = .ok (.iadd, 1) := by decide +kernel
theorem dX4_pollAt_27 : decode cX4_pollAt 27 = .ok (.invokevirtual 170, 3) := by decide +kernel
theorem dX4_pollAt_30 : decode cX4_pollAt 30 = .ok (.iload_n 3, 1) := by decide +kernel
theorem dX4_pollAt_31 : decode cX4_pollAt 31 = .ok (.ireturn, 1) := by decide +kernel
theorem dX4_playByTurns_0 : decode cX4_playByTurns 0 = .ok (.iconst 0, 1) := by decide +kernel
theorem dX4_playByTurns_1 : decode cX4_playByTurns 1 = .ok (.istore 4, 2) := by decide +kernel
theorem dX4_playByTurns_3 : decode cX4_playByTurns 3 = .ok (.iconst 0, 1) := by decide +kernel
theorem dX4_playByTurns_4 : decode cX4_playByTurns 4 = .ok (.istore 5, 2) := by decide +kernel
theorem dX4_playByTurns_6 : decode cX4_playByTurns 6 = .ok (.aload_n 0, 1) := by decide +kernel
theorem dX4_playByTurns_7 : decode cX4_playByTurns 7 = .ok (.getfield 183, 3) := by decide +kernel
theorem dX4_playByTurns_10 : decode cX4_playByTurns 10 = .ok (.aload_n 1, 1) := by decide +kernel
theorem dX4_playByTurns_11 : decode cX4_playByTurns 11 = .ok (.getfield 183, 3) := by decide +kernel
theorem dX4_playByTurns_14 : decode cX4_playByTurns 14 = .ok (.iadd, 1) := by decide +kernel
theorem dX4_playByTurns_15 : decode cX4_playByTurns 15 = .ok (.istore 6, 2) := by decide +kernel
theorem dX4_playByTurns_17 : decode cX4_playByTurns 17 = .ok (.iconst 0, 1) := by decide +kernel
theorem dX4_playByTurns_18 : decode cX4_playByTurns 18 = .ok (.istore 7, 2) := by decide +kernel
theorem dX4_playByTurns_20 : decode cX4_playByTurns 20 = .ok (.iload 7, 2) := by decide +kernel
theorem dX4_playByTurns_22 : decode cX4_playByTurns 22 = .ok (.iload 6, 2) := by decide +kernel
theorem dX4_playByTurns_24 : decode cX4_playByTurns 24 = .ok (.if_icmp .ge 84, 3) := by decide +kernel
theorem dX4_playByTurns_27 : decode cX4_playByTurns 27 = .ok (.iload_n 2, 1) := by decide +kernel
theorem dX4_playByTurns_28 : decode cX4_playByTurns 28 = .ok (.iload 7, 2) := by decide +kernel
theorem dX4_playByTurns_30 : decode cX4_playByTurns 30 = .ok (.bipush 31, 2) := by decide +kernel
theorem dX4_playByTurns_32 : decode cX4_playByTurns 32 = .ok (.iand, 1) := by decide +kernel
theorem dX4_playByTurns_33 : decode cX4_playByTurns 33 = .ok (.iushr, 1) := by decide +kernel
theorem dX4_playByTurns_34 : decode cX4_playByTurns 34 = .ok (.iconst 1, 1) := by decide +kernel
theorem dX4_playByTurns_35 : decode cX4_playByTurns 35 = .ok (.iand, 1) := by decide +kernel
theorem dX4_playByTurns_36 : decode cX4_playByTurns 36 = .ok (.iconst 1, 1) := by decide +kernel
theorem dX4_playByTurns_37 : decode cX4_playByTurns 37 = .ok (.if_icmp .ne 7, 3) := by decide +kernel
theorem dX4_playByTurns_40 : decode cX4_playByTurns 40 = .ok (.iconst 1, 1) := by decide +kernel
theorem dX4_playByTurns_41 : decode cX4_playByTurns 41 = .ok (.goto 4, 3) := by decide +kernel
theorem dX4_playByTurns_44 : decode cX4_playByTurns 44 = .ok (.iconst 0, 1) := by decide +kernel
theorem dX4_playByTurns_45 : decode cX4_playByTurns 45 = .ok (.istore 8, 2) := by decide +kernel
theorem dX4_playByTurns_47 : decode cX4_playByTurns 47 = .ok (.iload 5, 2) := by decide +kernel
theorem dX4_playByTurns_49 : decode cX4_playByTurns 49 = .ok (.aload_n 1, 1) := by decide +kernel
theorem dX4_playByTurns_50 : decode cX4_playByTurns 50 = .ok (.getfield 183, 3) := by decide +kernel
theorem dX4_playByTurns_53 : decode cX4_playByTurns 53 = .ok (.if_icmp .ge 30, 3) := by decide +kernel
theorem dX4_playByTurns_56 : decode cX4_playByTurns 56 = .ok (.iload 8, 2) := by decide +kernel
theorem dX4_playByTurns_58 : decode cX4_playByTurns 58 = .ok (.ifCond .ne 12, 3) := by decide +kernel
theorem dX4_playByTurns_61 : decode cX4_playByTurns 61 = .ok (.iload 4, 2) := by decide +kernel
theorem dX4_playByTurns_63 : decode cX4_playByTurns 63 = .ok (.aload_n 0, 1) := by decide +kernel
theorem dX4_playByTurns_64 : decode cX4_playByTurns 64 = .ok (.getfield 183, 3) := by decide +kernel
theorem dX4_playByTurns_67 : decode cX4_playByTurns 67 = .ok (.if_icmp .lt 16, 3) := by decide +kernel
theorem dX4_playByTurns_70 : decode cX4_playByTurns 70 = .ok (.aload_n 1, 1) := by decide +kernel
theorem dX4_playByTurns_71 : decode cX4_playByTurns 71 = .ok (.iload 5, 2) := by decide +kernel
theorem dX4_playByTurns_73 : decode cX4_playByTurns 73 = .ok (.aload_n 3, 1) := by decide +kernel
theorem dX4_playByTurns_74 : decode cX4_playByTurns 74 = .ok (.invokevirtual 298, 3) := by decide +kernel
theorem dX4_playByTurns_77 : decode cX4_playByTurns 77 = .ok (.iinc 5 1, 3) := by decide +kernel
theorem dX4_playByTurns_80 : decode cX4_playByTurns 80 = .ok (.goto 22, 3) := by decide +kernel
theorem dX4_playByTurns_83 : decode cX4_playByTurns 83 = .ok (.iload 4, 2) := by decide +kernel
theorem dX4_playByTurns_85 : decode cX4_playByTurns 85 = .ok (.aload_n 0, 1) := by decide +kernel
theorem dX4_playByTurns_86 : decode cX4_playByTurns 86 = .ok (.getfield 183, 3) := by decide +kernel
theorem dX4_playByTurns_89 : decode cX4_playByTurns 89 = .ok (.if_icmp .ge 13, 3) := by decide +kernel
theorem dX4_playByTurns_92 : decode cX4_playByTurns 92 = .ok (.aload_n 0, 1) := by decide +kernel
theorem dX4_playByTurns_93 : decode cX4_playByTurns 93 = .ok (.iload 4, 2) := by decide +kernel
theorem dX4_playByTurns_95 : decode cX4_playByTurns 95 = .ok (.aload_n 3, 1) := by decide +kernel
theorem dX4_playByTurns_96 : decode cX4_playByTurns 96 = .ok (.invokevirtual 298, 3) := by decide +kernel
theorem dX4_playByTurns_99 : decode cX4_playByTurns 99 = .ok (.iinc 4 1, 3) := by decide +kernel
theorem dX4_playByTurns_102 : decode cX4_playByTurns 102 = .ok (.iinc 7 1, 3) := by decide +kernel
theorem dX4_playByTurns_105 : decode cX4_playByTurns 105 = .ok (.goto (-85), 3) := by decide +kernel
theorem dX4_playByTurns_108 : decode cX4_playByTurns 108 = .ok (.return_, 1) := by decide +kernel
theorem dX4_isNearWay_0 : decode cX4_isNearWay 0 = .ok (.iload_n 0, 1) := by decide +kernel
theorem dX4_isNearWay_1 : decode cX4_isNearWay 1 = .ok (.bipush 102, 2) := by decide +kernel
theorem dX4_isNearWay_3 : decode cX4_isNearWay 3 = .ok (.if_icmp .eq 21, 3) := by decide +kernel
theorem dX4_isNearWay_6 : decode cX4_isNearWay 6 = .ok (.iload_n 0, 1) := by decide +kernel
theorem dX4_isNearWay_7 : decode cX4_isNearWay 7 = .ok (.bipush 99, 2) := by decide +kernel
theorem dX4_isNearWay_9 : decode cX4_isNearWay 9 = .ok (.if_icmp .eq 15, 3) := by decide +kernel
theorem dX4_isNearWay_12 : decode cX4_isNearWay 12 = .ok (.iload_n 0, 1) := by decide +kernel
theorem dX4_isNearWay_13 : decode cX4_isNearWay 13 = .ok (.bipush 104, 2) := by decide +kernel
theorem dX4_isNearWay_15 : decode cX4_isNearWay 15 = .ok (.if_icmp .eq 9, 3) := by decide +kernel
theorem dX4_isNearWay_18 : decode cX4_isNearWay 18 = .ok (.iload_n 0, 1) := by decide +kernel
theorem dX4_isNearWay_19 : decode cX4_isNearWay 19 = .ok (.bipush 108, 2) := by decide +kernel
theorem dX4_isNearWay_21 : decode cX4_isNearWay 21 = .ok (.if_icmp .ne 7, 3) := by decide +kernel
theorem dX4_isNearWay_24 : decode cX4_isNearWay 24 = .ok (.iconst 1, 1) := by decide +kernel
theorem dX4_isNearWay_25 : decode cX4_isNearWay 25 = .ok (.goto 4, 3) := by decide +kernel
theorem dX4_isNearWay_28 : decode cX4_isNearWay 28 = .ok (.iconst 0, 1) := by decide +kernel
theorem dX4_isNearWay_29 : decode cX4_isNearWay 29 = .ok (.ireturn, 1) := by decide +kernel
theorem dX4_isStepKind_0 : decode cX4_isStepKind 0 = .ok (.iload_n 0, 1) := by decide +kernel
theorem dX4_isStepKind_1 : decode cX4_isStepKind 1 = .ok (.bipush 112, 2) := by decide +kernel
theorem dX4_isStepKind_3 : decode cX4_isStepKind 3 = .ok (.if_icmp .eq 27, 3) := by decide +kernel
theorem dX4_isStepKind_6 : decode cX4_isStepKind 6 = .ok (.iload_n 0, 1) := by decide +kernel
theorem dX4_isStepKind_7 : decode cX4_isStepKind 7 = .ok (.bipush 114, 2) := by decide +kernel
theorem dX4_isStepKind_9 : decode cX4_isStepKind 9 = .ok (.if_icmp .eq 21, 3) := by decide +kernel
theorem dX4_isStepKind_12 : decode cX4_isStepKind 12 = .ok (.iload_n 0, 1) := by decide +kernel
theorem dX4_isStepKind_13 : decode cX4_isStepKind 13 = .ok (.bipush 115, 2) := by decide +kernel
theorem dX4_isStepKind_15 : decode cX4_isStepKind 15 = .ok (.if_icmp .eq 15, 3) := by decide +kernel
theorem dX4_isStepKind_18 : decode cX4_isStepKind 18 = .ok (.iload_n 0, 1) := by decide +kernel
theorem dX4_isStepKind_19 : decode cX4_isStepKind 19 = .ok (.bipush 97, 2) := by decide +kernel
theorem dX4_isStepKind_21 : decode cX4_isStepKind 21 = .ok (.if_icmp .eq 9, 3) := by decide +kernel
theorem dX4_isStepKind_24 : decode cX4_isStepKind 24 = .ok (.iload_n 0, 1) := by decide +kernel
theorem dX4_isStepKind_25 : decode cX4_isStepKind 25 = .ok (.bipush 120, 2) := by decide +kernel
theorem dX4_isStepKind_27 : decode cX4_isStepKind 27 = .ok (.if_icmp .ne 7, 3) := by decide +kernel
theorem dX4_isStepKind_30 : decode cX4_isStepKind 30 = .ok (.iconst 1, 1) := by decide +kernel
theorem dX4_isStepKind_31 : decode cX4_isStepKind 31 = .ok (.goto 4, 3) := by decide +kernel
theorem dX4_isStepKind_34 : decode cX4_isStepKind 34 = .ok (.iconst 0, 1) := by decide +kernel
theorem dX4_isStepKind_35 : decode cX4_isStepKind 35 = .ok (.ireturn, 1) := by decide +kernel
theorem dX4_isMixWay_0 : decode cX4_isMixWay 0 = .ok (.iload_n 0, 1) := by decide +kernel
theorem dX4_isMixWay_1 : decode cX4_isMixWay 1 = .ok (.bipush 115, 2) := by decide +kernel
theorem dX4_isMixWay_3 : decode cX4_isMixWay 3 = .ok (.if_icmp .eq 15, 3) := by decide +kernel
theorem dX4_isMixWay_6 : decode cX4_isMixWay 6 = .ok (.iload_n 0, 1) := by decide +kernel
theorem dX4_isMixWay_7 : decode cX4_isMixWay 7 = .ok (.bipush 103, 2) := by decide +kernel
theorem dX4_isMixWay_9 : decode cX4_isMixWay 9 = .ok (.if_icmp .eq 9, 3) := by decide +kernel
theorem dX4_isMixWay_12 : decode cX4_isMixWay 12 = .ok (.iload_n 0, 1) := by decide +kernel
theorem dX4_isMixWay_13 : decode cX4_isMixWay 13 = .ok (.bipush 108, 2) := by decide +kernel
theorem dX4_isMixWay_15 : decode cX4_isMixWay 15 = .ok (.if_icmp .ne 7, 3) := by decide +kernel
theorem dX4_isMixWay_18 : decode cX4_isMixWay 18 = .ok (.iconst 1, 1) := by decide +kernel
theorem dX4_isMixWay_19 : decode cX4_isMixWay 19 = .ok (.goto 4, 3) := by decide +kernel
theorem dX4_isMixWay_22 : decode cX4_isMixWay 22 = .ok (.iconst 0, 1) := by decide +kernel
theorem dX4_isMixWay_23 : decode cX4_isMixWay 23 = .ok (.ireturn, 1) := by decide +kernel
theorem dX4_chain_0 : decode cX4_chain 0 = .ok (.ldc2_w 302, 3) := by decide +kernel
theorem dX4_chain_3 : decode cX4_chain 3 = .ok (.lload_n 0, 1) := by decide +kernel
theorem dX4_chain_4 : decode cX4_chain 4 = .ok (.lmul, 1) := by decide +kernel
theorem dX4_chain_5 : decode cX4_chain 5 = .ok (.iload_n 2, 1) := by decide +kernel
theorem dX4_chain_6 : decode cX4_chain 6 = .ok (.i2l, 1) := by decide +kernel
theorem dX4_chain_7 : decode cX4_chain 7 = .ok (.ladd, 1) := by decide +kernel
theorem dX4_chain_8 : decode cX4_chain 8 = .ok (.lreturn, 1) := by decide +kernel
