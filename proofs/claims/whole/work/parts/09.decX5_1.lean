theorem dX5_viewEnd_60 : decode cX5_viewEnd 60 = .ok (.iload_n 1, 1) := by decide +kernel
theorem dX5_viewEnd_61 : decode cX5_viewEnd 61 = .ok (.invokevirtual 123, 3) := by decide +kernel
theorem dX5_viewEnd_64 : decode cX5_viewEnd 64 = .ok (.iconst 1, 1) := by decide +kernel
theorem dX5_viewEnd_65 : decode cX5_viewEnd 65 = .ok (.isub, 1) := by decide +kernel
theorem dX5_viewEnd_66 : decode cX5_viewEnd 66 = .ok (.goto 8, 3) := by decide +kernel
theorem dX5_viewEnd_69 : decode cX5_viewEnd 69 = .ok (.aload_n 0, 1) := by decide +kernel
theorem dX5_viewEnd_70 : decode cX5_viewEnd 70 = .ok (.iload_n 1, 1) := by decide +kernel
theorem dX5_viewEnd_71 : decode cX5_viewEnd 71 = .ok (.invokevirtual 116, 3) := by decide +kernel
theorem dX5_viewEnd_74 : decode cX5_viewEnd 74 = .ok (.iadd, 1) := by decide +kernel
theorem dX5_viewEnd_75 : decode cX5_viewEnd 75 = .ok (.iaload, 1) := by decide +kernel
theorem dX5_viewEnd_76 : decode cX5_viewEnd 76 = .ok (.ireturn, 1) := by decide +kernel
theorem dX5_viewPoll_0 : decode cX5_viewPoll 0 = .ok (.aload_n 0, 1) := by decide +kernel
theorem dX5_viewPoll_1 : decode cX5_viewPoll 1 = .ok (.iload_n 1, 1) := by decide +kernel
theorem dX5_viewPoll_2 : decode cX5_viewPoll 2 = .ok (.invokestatic 126, 3) := by decide +kernel
theorem dX5_viewPoll_5 : decode cX5_viewPoll 5 = .ok (.ifCond .ne 7, 3) := by decide +kernel
theorem dX5_viewPoll_8 : decode cX5_viewPoll 8 = .ok (.iconst 1, 1) := by decide +kernel
theorem dX5_viewPoll_9 : decode cX5_viewPoll 9 = .ok (.goto 25, 3) := by decide +kernel
theorem dX5_viewPoll_12 : decode cX5_viewPoll 12 = .ok (.aload_n 0, 1) := by decide +kernel
theorem dX5_viewPoll_13 : decode cX5_viewPoll 13 = .ok (.getfield 19, 3) := by decide +kernel
theorem dX5_viewPoll_16 : decode cX5_viewPoll 16 = .ok (.iload_n 1, 1) := by decide +kernel
theorem dX5_viewPoll_17 : decode cX5_viewPoll 17 = .ok (.baload, 1) := by decide +kernel
theorem dX5_viewPoll_18 : decode cX5_viewPoll 18 = .ok (.ifCond .eq 11, 3) := by decide +kernel
theorem dX5_viewPoll_21 : decode cX5_viewPoll 21 = .ok (.aload_n 0, 1) := by decide +kernel
theorem dX5_viewPoll_22 : decode cX5_viewPoll 22 = .ok (.iload_n 1, 1) := by decide +kernel
theorem dX5_viewPoll_23 : decode cX5_viewPoll 23 = .ok (.invokevirtual 129, 3) := by decide +kernel
theorem dX5_viewPoll_26 : decode cX5_viewPoll 26 = .ok (.ifCond .ne 7, 3) := by decide +kernel
theorem dX5_viewPoll_29 : decode cX5_viewPoll 29 = .ok (.iconst 2, 1) := by decide +kernel
theorem dX5_viewPoll_30 : decode cX5_viewPoll 30 = .ok (.goto 4, 3) := by decide +kernel
theorem dX5_viewPoll_33 : decode cX5_viewPoll 33 = .ok (.iconst 0, 1) := by decide +kernel
theorem dX5_viewPoll_34 : decode cX5_viewPoll 34 = .ok (.invokevirtual 95, 3) := by decide +kernel
theorem dX5_viewPoll_37 : decode cX5_viewPoll 37 = .ok (.ifCond .eq 5, 3) := by decide +kernel
theorem dX5_viewPoll_40 : decode cX5_viewPoll 40 = .ok (.iconst 0, 1) := by decide +kernel
theorem dX5_viewPoll_41 : decode cX5_viewPoll 41 = .ok (.ireturn, 1) := by decide +kernel
theorem dX5_viewPoll_42 : decode cX5_viewPoll 42 = .ok (.aload_n 0, 1) := by decide +kernel
theorem dX5_viewPoll_43 : decode cX5_viewPoll 43 = .ok (.aload_n 0, 1) := by decide +kernel
theorem dX5_viewPoll_44 : decode cX5_viewPoll 44 = .ok (.getfield 23, 3) := by decide +kernel
theorem dX5_viewPoll_47 : decode cX5_viewPoll 47 = .ok (.iload_n 1, 1) := by decide +kernel
theorem dX5_viewPoll_48 : decode cX5_viewPoll 48 = .ok (.iaload, 1) := by decide +kernel
theorem dX5_viewPoll_49 : decode cX5_viewPoll 49 = .ok (.iload_n 2, 1) := by decide +kernel
theorem dX5_viewPoll_50 : decode cX5_viewPoll 50 = .ok (.ifCond .eq 13, 3) := by decide +kernel
theorem dX5_viewPoll_53 : decode cX5_viewPoll 53 = .ok (.aload_n 0, 1) := by decide +kernel
theorem dX5_viewPoll_54 : decode cX5_viewPoll 54 = .ok (.iload_n 1, 1) := by decide +kernel
theorem dX5_viewPoll_55 : decode cX5_viewPoll 55 = .ok (.invokevirtual 123, 3) := by decide +kernel
theorem dX5_viewPoll_58 : decode cX5_viewPoll 58 = .ok (.iconst 1, 1) := by decide +kernel
theorem dX5_viewPoll_59 : decode cX5_viewPoll 59 = .ok (.isub, 1) := by decide +kernel
theorem dX5_viewPoll_60 : decode cX5_viewPoll 60 = .ok (.goto 8, 3) := by decide +kernel
theorem dX5_viewPoll_63 : decode cX5_viewPoll 63 = .ok (.aload_n 0, 1) := by decide +kernel
theorem dX5_viewPoll_64 : decode cX5_viewPoll 64 = .ok (.iload_n 1, 1) := by decide +kernel
theorem dX5_viewPoll_65 : decode cX5_viewPoll 65 = .ok (.invokevirtual 116, 3) := by decide +kernel
theorem dX5_viewPoll_68 : decode cX5_viewPoll 68 = .ok (.invokevirtual 110, 3) := by decide +kernel
theorem dX5_viewPoll_71 : decode cX5_viewPoll 71 = .ok (.ireturn, 1) := by decide +kernel
theorem dX5_viewClear_0 : decode cX5_viewClear 0 = .ok (.aload_n 0, 1) := by decide +kernel
theorem dX5_viewClear_1 : decode cX5_viewClear 1 = .ok (.iload_n 1, 1) := by decide +kernel
theorem dX5_viewClear_2 : decode cX5_viewClear 2 = .ok (.invokestatic 126, 3) := by decide +kernel
theorem dX5_viewClear_5 : decode cX5_viewClear 5 = .ok (.ifCond .ne 7, 3) := by decide +kernel
theorem dX5_viewClear_8 : decode cX5_viewClear 8 = .ok (.iconst 1, 1) := by decide +kernel
theorem dX5_viewClear_9 : decode cX5_viewClear 9 = .ok (.goto 17, 3) := by decide +kernel
theorem dX5_viewClear_12 : decode cX5_viewClear 12 = .ok (.aload_n 0, 1) := by decide +kernel
theorem dX5_viewClear_13 : decode cX5_viewClear 13 = .ok (.getfield 19, 3) := by decide +kernel
theorem dX5_viewClear_16 : decode cX5_viewClear 16 = .ok (.iload_n 1, 1) := by decide +kernel
theorem dX5_viewClear_17 : decode cX5_viewClear 17 = .ok (.baload, 1) := by decide +kernel
theorem dX5_viewClear_18 : decode cX5_viewClear 18 = .ok (.ifCond .ne 7, 3) := by decide +kernel
theorem dX5_viewClear_21 : decode cX5_viewClear 21 = .ok (.iconst 2, 1) := by decide +kernel
theorem dX5_viewClear_22 : decode cX5_viewClear 22 = .ok (.goto 4, 3) := by decide +kernel
theorem dX5_viewClear_25 : decode cX5_viewClear 25 = .ok (.iconst 0, 1) := by decide +kernel
theorem dX5_viewClear_26 : decode cX5_viewClear 26 = .ok (.invokevirtual 95, 3) := by decide +kernel
theorem dX5_viewClear_29 : decode cX5_viewClear 29 = .ok (.ifCond .eq 5, 3) := by decide +kernel
theorem dX5_viewClear_32 : decode cX5_viewClear 32 = .ok (.iconst 0, 1) := by decide +kernel
theorem dX5_viewClear_33 : decode cX5_viewClear 33 = .ok (.ireturn, 1) := by decide +kernel
theorem dX5_viewClear_34 : decode cX5_viewClear 34 = .ok (.aload_n 0, 1) := by decide +kernel
theorem dX5_viewClear_35 : decode cX5_viewClear 35 = .ok (.iload_n 1, 1) := by decide +kernel
theorem dX5_viewClear_36 : decode cX5_viewClear 36 = .ok (.invokevirtual 129, 3) := by decide +kernel
theorem dX5_viewClear_39 : decode cX5_viewClear 39 = .ok (.istore_n 2, 1) := by decide +kernel
theorem dX5_viewClear_40 : decode cX5_viewClear 40 = .ok (.aload_n 0, 1) := by decide +kernel
theorem dX5_viewClear_41 : decode cX5_viewClear 41 = .ok (.iload_n 1, 1) := by decide +kernel
theorem dX5_viewClear_42 : decode cX5_viewClear 42 = .ok (.invokevirtual 116, 3) := by decide +kernel
theorem dX5_viewClear_45 : decode cX5_viewClear 45 = .ok (.istore_n 3, 1) := by decide +kernel
theorem dX5_viewClear_46 : decode cX5_viewClear 46 = .ok (.iconst 0, 1) := by decide +kernel
theorem dX5_viewClear_47 : decode cX5_viewClear 47 = .ok (.istore 4, 2) := by decide +kernel
theorem dX5_viewClear_49 : decode cX5_viewClear 49 = .ok (.iload 4, 2) := by decide +kernel
theorem dX5_viewClear_51 : decode cX5_viewClear 51 = .ok (.iload_n 2, 1) := by decide +kernel
theorem dX5_viewClear_52 : decode cX5_viewClear 52 = .ok (.if_icmp .ge 20, 3) := by decide +kernel
theorem dX5_viewClear_55 : decode cX5_viewClear 55 = .ok (.aload_n 0, 1) := by decide +kernel
theorem dX5_viewClear_56 : decode cX5_viewClear 56 = .ok (.aload_n 0, 1) := by decide +kernel
theorem dX5_viewClear_57 : decode cX5_viewClear 57 = .ok (.getfield 23, 3) := by decide +kernel
theorem dX5_viewClear_60 : decode cX5_viewClear 60 = .ok (.iload_n 1, 1) := by decide +kernel
theorem dX5_viewClear_61 : decode cX5_viewClear 61 = .ok (.iaload, 1) := by decide +kernel
theorem dX5_viewClear_62 : decode cX5_viewClear 62 = .ok (.iload_n 3, 1) := by decide +kernel
theorem dX5_viewClear_63 : decode cX5_viewClear 63 = .ok (.invokevirtual 79, 3) := by decide +kernel
theorem dX5_viewClear_66 : decode cX5_viewClear 66 = .ok (.iinc 4 1, 3) := by decide +kernel
theorem dX5_viewClear_69 : decode cX5_viewClear 69 = .ok (.goto (-20), 3) := by decide +kernel
theorem dX5_viewClear_72 : decode cX5_viewClear 72 = .ok (.iload_n 2, 1) := by decide +kernel
theorem dX5_viewClear_73 : decode cX5_viewClear 73 = .ok (.ireturn, 1) := by decide +kernel
theorem dX5_viewSize_0 : decode cX5_viewSize 0 = .ok (.aload_n 0, 1) := by decide +kernel
theorem dX5_viewSize_1 : decode cX5_viewSize 1 = .ok (.iload_n 1, 1) := by decide +kernel
theorem dX5_viewSize_2 : decode cX5_viewSize 2 = .ok (.invokestatic 126, 3) := by decide +kernel
theorem dX5_viewSize_5 : decode cX5_viewSize 5 = .ok (.ifCond .ne 7, 3) := by decide +kernel
theorem dX5_viewSize_8 : decode cX5_viewSize 8 = .ok (.iconst 1, 1) := by decide +kernel
theorem dX5_viewSize_9 : decode cX5_viewSize 9 = .ok (.goto 4, 3) := by decide +kernel
theorem dX5_viewSize_12 : decode cX5_viewSize 12 = .ok (.iconst 0, 1) := by decide +kernel
theorem dX5_viewSize_13 : decode cX5_viewSize 13 = .ok (.invokevirtual 95, 3) := by decide +kernel
theorem dX5_viewSize_16 : decode cX5_viewSize 16 = .ok (.ifCond .eq 7, 3) := by decide +kernel
theorem dX5_viewSize_19 : decode cX5_viewSize 19 = .ok (.iconst 0, 1) := by decide +kernel
theorem dX5_viewSize_20 : decode cX5_viewSize 20 = .ok (.goto 21, 3) := by decide +kernel
theorem dX5_viewSize_23 : decode cX5_viewSize 23 = .ok (.aload_n 0, 1) := by decide +kernel
theorem dX5_viewSize_24 : decode cX5_viewSize 24 = .ok (.getfield 19, 3) := by decide +kernel
theorem dX5_viewSize_27 : decode cX5_viewSize 27 = .ok (.iload_n 1, 1) := by decide +kernel
theorem dX5_viewSize_28 : decode cX5_viewSize 28 = .ok (.baload, 1) := by decide +kernel
theorem dX5_viewSize_29 : decode cX5_viewSize 29 = .ok (.ifCond .eq 11, 3) := by decide +kernel
theorem dX5_viewSize_32 : decode cX5_viewSize 32 = .ok (.aload_n 0, 1) := by decide +kernel
theorem dX5_viewSize_33 : decode cX5_viewSize 33 = .ok (.iload_n 1, 1) := by decide +kernel
theorem dX5_viewSize_34 : decode cX5_viewSize 34 = .ok (.invokevirtual 129, 3) := by decide +kernel
theorem dX5_viewSize_37 : decode cX5_viewSize 37 = .ok (.goto 4, 3) := by decide +kernel
theorem dX5_viewSize_40 : decode cX5_viewSize 40 = .ok (.iconst (-1), 1) := by decide +kernel
theorem dX5_viewSize_41 : decode cX5_viewSize 41 = .ok (.ireturn, 1) := by decide +kernel
theorem dX5_lies_0 : decode cX5_lies 0 = .ok (.aload_n 0, 1) := by decide +kernel
theorem dX5_lies_1 : decode cX5_lies 1 = .ok (.iload_n 1, 1) := by decide +kernel
theorem dX5_lies_2 : decode cX5_lies 2 = .ok (.invokestatic 126, 3) := by decide +kernel
theorem dX5_lies_5 : decode cX5_lies 5 = .ok (.ifCond .ne 7, 3) := by decide +kernel
theorem dX5_lies_8 : decode cX5_lies 8 = .ok (.iconst 1, 1) := by decide +kernel
theorem dX5_lies_9 : decode cX5_lies 9 = .ok (.goto 17, 3) := by decide +kernel
theorem dX5_lies_12 : decode cX5_lies 12 = .ok (.aload_n 0, 1) := by decide +kernel
theorem dX5_lies_13 : decode cX5_lies 13 = .ok (.getfield 19, 3) := by decide +kernel
theorem dX5_lies_16 : decode cX5_lies 16 = .ok (.iload_n 1, 1) := by decide +kernel
theorem dX5_lies_17 : decode cX5_lies 17 = .ok (.baload, 1) := by decide +kernel
theorem dX5_lies_18 : decode cX5_lies 18 = .ok (.ifCond .ne 7, 3) := by decide +kernel
theorem dX5_lies_21 : decode cX5_lies 21 = .ok (.iconst 2, 1) := by decide +kernel
theorem dX5_lies_22 : decode cX5_lies 22 = .ok (.goto 4, 3) := by decide +kernel
theorem dX5_lies_25 : decode cX5_lies 25 = .ok (.iconst 0, 1) := by decide +kernel
theorem dX5_lies_26 : decode cX5_lies 26 = .ok (.invokevirtual 95, 3) := by decide +kernel
theorem dX5_lies_29 : decode cX5_lies 29 = .ok (.ifCond .ne 16, 3) := by decide +kernel
theorem dX5_lies_32 : decode cX5_lies 32 = .ok (.aload_n 0, 1) := by decide +kernel
theorem dX5_lies_33 : decode cX5_lies 33 = .ok (.iload_n 1, 1) := by decide +kernel
theorem dX5_lies_34 : decode cX5_lies 34 = .ok (.iload_n 2, 1) := by decide +kernel
theorem dX5_lies_35 : decode cX5_lies 35 = .ok (.invokevirtual 120, 3) := by decide +kernel
theorem dX5_lies_38 : decode cX5_lies 38 = .ok (.ifCond .eq 7, 3) := by decide +kernel
theorem dX5_lies_41 : decode cX5_lies 41 = .ok (.iconst 1, 1) := by decide +kernel
theorem dX5_lies_42 : decode cX5_lies 42 = .ok (.goto 4, 3) := by decide +kernel
theorem dX5_lies_45 : decode cX5_lies 45 = .ok (.iconst 0, 1) := by decide +kernel
theorem dX5_lies_46 : decode cX5_lies 46 = .ok (.ireturn, 1) := by decide +kernel
theorem dX5_step_0 : decode cX5_step 0 = .ok (.iload_n 2, 1) := by decide +kernel
theorem dX5_step_1 : decode cX5_step 1 = .ok (.bipush 112, 2) := by decide +kernel
theorem dX5_step_3 : decode cX5_step 3 = .ok (.if_icmp .eq 27, 3) := by decide +kernel
theorem dX5_step_6 : decode cX5_step 6 = .ok (.iload_n 2, 1) := by decide +kernel
theorem dX5_step_7 : decode cX5_step 7 = .ok (.bipush 114, 2) := by decide +kernel
theorem dX5_step_9 : decode cX5_step 9 = .ok (.if_icmp .eq 21, 3) := by decide +kernel
theorem dX5_step_12 : decode cX5_step 12 = .ok (.iload_n 2, 1) := by decide +kernel
theorem dX5_step_13 : decode cX5_step 13 = .ok (.bipush 115, 2) := by decide +kernel
theorem dX5_step_15 : decode cX5_step 15 = .ok (.if_icmp .eq 15, 3) := by decide +kernel
theorem dX5_step_18 : decode cX5_step 18 = .ok (.iload_n 2, 1) := by decide +kernel
theorem dX5_step_19 : decode cX5_step 19 = .ok (.bipush 97, 2) := by decide +kernel
theorem dX5_step_21 : decode cX5_step 21 = .ok (.if_icmp .eq 9, 3) := by decide +kernel
theorem dX5_step_24 : decode cX5_step 24 = .ok (.iload_n 2, 1) := by decide +kernel
theorem dX5_step_25 : decode cX5_step 25 = .ok (.bipush 120, 2) := by decide +kernel
theorem dX5_step_27 : decode cX5_step 27 = .ok (.if_icmp .ne 7, 3) := by decide +kernel
theorem dX5_step_30 : decode cX5_step 30 = .ok (.iconst 1, 1) := by decide +kernel
theorem dX5_step_31 : decode cX5_step 31 = .ok (.goto 4, 3) := by decide +kernel
theorem dX5_step_34 : decode cX5_step 34 = .ok (.iconst 0, 1) := by decide +kernel
theorem dX5_step_35 : decode cX5_step 35 = .ok (.istore 5, 2) := by decide +kernel
theorem dX5_step_37 : decode cX5_step 37 = .ok (.aload_n 0, 1) := by decide +kernel
theorem dX5_step_38 : decode cX5_step 38 = .ok (.iload_n 1, 1) := by decide +kernel
theorem dX5_step_39 : decode cX5_step 39 = .ok (.invokestatic 136, 3) := by decide +kernel
theorem dX5_step_42 : decode cX5_step 42 = .ok (.ifCond .ne 7, 3) := by decide +kernel
theorem dX5_step_45 : decode cX5_step 45 = .ok (.iconst 1, 1) := by decide +kernel
theorem dX5_step_46 : decode cX5_step 46 = .ok (.goto 28, 3) := by decide +kernel
theorem dX5_step_49 : decode cX5_step 49 = .ok (.iload 5, 2) := by decide +kernel
theorem dX5_step_51 : decode cX5_step 51 = .ok (.ifCond .ne 7, 3) := by decide +kernel
theorem dX5_step_54 : decode cX5_step 54 = .ok (.iconst 2, 1) := by decide +kernel
theorem dX5_step_55 : decode cX5_step 55 = .ok (.goto 19, 3) := by decide +kernel
theorem dX5_step_58 : decode cX5_step 58 = .ok (.aload_n 0, 1) := by decide +kernel
theorem dX5_step_59 : decode cX5_step 59 = .ok (.getfield 51, 3) := by decide +kernel
theorem dX5_step_62 : decode cX5_step 62 = .ok (.iload_n 1, 1) := by decide +kernel
theorem dX5_step_63 : decode cX5_step 63 = .ok (.iaload, 1) := by decide +kernel
theorem dX5_step_64 : decode cX5_step 64 = .ok (.bipush 30, 2) := by decide +kernel
theorem dX5_step_66 : decode cX5_step 66 = .ok (.if_icmp .ne 7, 3) := by decide +kernel
theorem dX5_step_69 : decode cX5_step 69 = .ok (.iconst 3, 1) := by decide +kernel
theorem dX5_step_70 : decode cX5_step 70 = .ok (.goto 4, 3) := by decide +kernel
theorem dX5_step_73 : decode cX5_step 73 = .ok (.iconst 0, 1) := by decide +kernel
theorem dX5_step_74 : decode cX5_step 74 = .ok (.invokevirtual 95, 3) := by decide +kernel
theorem dX5_step_77 : decode cX5_step 77 = .ok (.ifCond .eq 5, 3) := by decide +kernel
theorem dX5_step_80 : decode cX5_step 80 = .ok (.iconst 0, 1) := by decide +kernel
theorem dX5_step_81 : decode cX5_step 81 = .ok (.ireturn, 1) := by decide +kernel
theorem dX5_step_82 : decode cX5_step 82 = .ok (.aload_n 0, 1) := by decide +kernel
theorem dX5_step_83 : decode cX5_step 83 = .ok (.iload_n 1, 1) := by decide +kernel
theorem dX5_step_84 : decode cX5_step 84 = .ok (.iload_n 2, 1) := by decide +kernel
theorem dX5_step_85 : decode cX5_step 85 = .ok (.iload_n 3, 1) := by decide +kernel
theorem dX5_step_86 : decode cX5_step 86 = .ok (.iload 4, 2) := by decide +kernel
theorem dX5_step_88 : decode cX5_step 88 = .ok (.invokevirtual 139, 3) := by decide +kernel
theorem dX5_step_91 : decode cX5_step 91 = .ok (.aload_n 0, 1) := by decide +kernel
theorem dX5_step_92 : decode cX5_step 92 = .ok (.getfield 51, 3) := by decide +kernel
theorem dX5_step_95 : decode cX5_step 95 = .ok (.iload_n 1, 1) := by decide +kernel
theorem dX5_step_96 : decode cX5_step 96 = .ok (.iaload, 1) := by decide +kernel
theorem dX5_step_97 : decode cX5_step 97 = .ok (.ireturn, 1) := by decide +kernel
theorem dX5_adds_0 : decode cX5_adds 0 = .ok (.bipush 30, 2) := by decide +kernel
theorem dX5_adds_2 : decode cX5_adds 2 = .ok (.iload_n 1, 1) := by decide +kernel
theorem dX5_adds_3 : decode cX5_adds 3 = .ok (.imul, 1) := by decide +kernel
theorem dX5_adds_4 : decode cX5_adds 4 = .ok (.aload_n 0, 1) := by decide +kernel
theorem dX5_adds_5 : decode cX5_adds 5 = .ok (.getfield 51, 3) := by decide +kernel
theorem dX5_adds_8 : decode cX5_adds 8 = .ok (.iload_n 1, 1) := by decide +kernel
theorem dX5_adds_9 : decode cX5_adds 9 = .ok (.iaload, 1) := by decide +kernel
theorem dX5_adds_10 : decode cX5_adds 10 = .ok (.iadd, 1) := by decide +kernel
theorem dX5_adds_11 : decode cX5_adds 11 = .ok (.istore 5, 2) := by decide +kernel
theorem dX5_adds_13 : decode cX5_adds 13 = .ok (.aload_n 0, 1) := by decide +kernel
theorem dX5_adds_14 : decode cX5_adds 14 = .ok (.getfield 41, 3) := by decide +kernel
theorem dX5_adds_17 : decode cX5_adds 17 = .ok (.iload 5, 2) := by decide +kernel
theorem dX5_adds_19 : decode cX5_adds 19 = .ok (.iload_n 2, 1) := by decide +kernel
theorem dX5_adds_20 : decode cX5_adds 20 = .ok (.castore, 1) := by decide +kernel
theorem dX5_adds_21 : decode cX5_adds 21 = .ok (.aload_n 0, 1) := by decide +kernel
theorem dX5_adds_22 : decode cX5_adds 22 = .ok (.getfield 45, 3) := by decide +kernel
theorem dX5_adds_25 : decode cX5_adds 25 = .ok (.iload 5, 2) := by decide +kernel
theorem dX5_adds_27 : decode cX5_adds 27 = .ok (.iload_n 3, 1) := by decide +kernel
theorem dX5_adds_28 : decode cX5_adds 28 = .ok (.iastore, 1) := by decide +kernel
theorem dX5_adds_29 : decode cX5_adds 29 = .ok (.aload_n 0, 1) := by decide +kernel
theorem dX5_adds_30 : decode cX5_adds 30 = .ok (.getfield 48, 3) := by decide +kernel
theorem dX5_adds_33 : decode cX5_adds 33 = .ok (.iload 5, 2) := by decide +kernel
theorem dX5_adds_35 : decode cX5_adds 35 = .ok (.iload 4, 2) := by decide +kernel
theorem dX5_adds_37 : decode cX5_adds 37 = .ok (.iastore, 1) := by decide +kernel
theorem dX5_adds_38 : decode cX5_adds 38 = .ok (.aload_n 0, 1) := by decide +kernel
theorem dX5_adds_39 : decode cX5_adds 39 = .ok (.getfield 51, 3) := by decide +kernel
theorem dX5_adds_42 : decode cX5_adds 42 = .ok (.iload_n 1, 1) := by decide +kernel
theorem dX5_adds_43 : decode cX5_adds 43 = .ok (.dup2, 1) := by decide +kernel
theorem dX5_adds_44 : decode cX5_adds 44 = .ok (.iaload, 1) := by decide +kernel
theorem dX5_adds_45 : decode cX5_adds 45 = .ok (.iconst 1, 1) := by decide +kernel
theorem dX5_adds_46 : decode cX5_adds 46 = .ok (.iadd, 1) := by decide +kernel
theorem dX5_adds_47 : decode cX5_adds 47 = .ok (.iastore, 1) := by decide +kernel
theorem dX5_adds_48 : decode cX5_adds 48 = .ok (.return_, 1) := by decide +kernel
theorem dX5_forget_0 : decode cX5_forget 0 = .ok (.aload_n 0, 1) := by decide +kernel
theorem dX5_forget_1 : decode cX5_forget 1 = .ok (.iload_n 1, 1) := by decide +kernel
theorem dX5_forget_2 : decode cX5_forget 2 = .ok (.invokestatic 136, 3) := by decide +kernel
theorem dX5_forget_5 : decode cX5_forget 5 = .ok (.ifCond .ne 7, 3) := by decide +kernel
theorem dX5_forget_8 : decode cX5_forget 8 = .ok (.iconst 1, 1) := by decide +kernel
theorem dX5_forget_9 : decode cX5_forget 9 = .ok (.goto 4, 3) := by decide +kernel
theorem dX5_forget_12 : decode cX5_forget 12 = .ok (.iconst 0, 1) := by decide +kernel
theorem dX5_forget_13 : decode cX5_forget 13 = .ok (.invokevirtual 95, 3) := by decide +kernel
theorem dX5_forget_16 : decode cX5_forget 16 = .ok (.ifCond .eq 5, 3) := by decide +kernel
theorem dX5_forget_19 : decode cX5_forget 19 = .ok (.iconst 0, 1) := by decide +kernel
theorem dX5_forget_20 : decode cX5_forget 20 = .ok (.ireturn, 1) := by decide +kernel
theorem dX5_forget_21 : decode cX5_forget 21 = .ok (.aload_n 0, 1) := by decide +kernel
theorem dX5_forget_22 : decode cX5_forget 22 = .ok (.getfield 51, 3) := by decide +kernel
theorem dX5_forget_25 : decode cX5_forget 25 = .ok (.iload_n 1, 1) := by decide +kernel
theorem dX5_forget_26 : decode cX5_forget 26 = .ok (.iaload, 1) := by decide +kernel
theorem dX5_forget_27 : decode cX5_forget 27 = .ok (.istore_n 2, 1) := by decide +kernel
theorem dX5_forget_28 : decode cX5_forget 28 = .ok (.aload_n 0, 1) := by decide +kernel
theorem dX5_forget_29 : decode cX5_forget 29 = .ok (.getfield 51, 3) := by decide +kernel
theorem dX5_forget_32 : decode cX5_forget 32 = .ok (.iload_n 1, 1) := by decide +kernel
theorem dX5_forget_33 : decode cX5_forget 33 = .ok (.iconst 0, 1) := by decide +kernel
theorem dX5_forget_34 : decode cX5_forget 34 = .ok (.iastore, 1) := by decide +kernel
theorem dX5_forget_35 : decode cX5_forget 35 = .ok (.iload_n 2, 1) := by decide +kernel
theorem dX5_forget_36 : decode cX5_forget 36 = .ok (.ireturn, 1) := by decide +kernel
theorem dX5_does_0 : decode cX5_does 0 = .ok (.aload_n 0, 1) := by decide +kernel
theorem dX5_does_1 : decode cX5_does 1 = .ok (.getfield 45, 3) := by decide +kernel
theorem dX5_does_4 : decode cX5_does 4 = .ok (.iload_n 2, 1) := by decide +kernel
theorem dX5_does_5 : decode cX5_does 5 = .ok (.iaload, 1) := by decide +kernel
theorem dX5_does_6 : decode cX5_does 6 = .ok (.istore_n 3, 1) := by decide +kernel
theorem dX5_does_7 : decode cX5_does 7 = .ok (.aload_n 0, 1) := by decide +kernel
theorem dX5_does_8 : decode cX5_does 8 = .ok (.getfield 48, 3) := by decide +kernel
theorem dX5_does_11 : decode cX5_does 11 = .ok (.iload_n 2, 1) := by decide +kernel
theorem dX5_does_12 : decode cX5_does 12 = .ok (.iaload, 1) := by decide +kernel
theorem dX5_does_13 : decode cX5_does 13 = .ok (.istore 4, 2) := by decide +kernel
theorem dX5_does_15 : decode cX5_does 15 = .ok (.aload_n 0, 1) := by decide +kernel
theorem dX5_does_16 : decode cX5_does 16 = .ok (.getfield 41, 3) := by decide +kernel
theorem dX5_does_19 : decode cX5_does 19 = .ok (.iload_n 2, 1) := by decide +kernel
theorem dX5_does_20 : decode cX5_does 20 = .ok (.caload, 1) := by decide +kernel
theorem dX5_does_21 : decode cX5_does 21 = .ok (.istore 5, 2) := by decide +kernel
theorem dX5_does_23 : decode cX5_does 23 = .ok (.aload_n 0, 1) := by decide +kernel
theorem dX5_does_24 : decode cX5_does 24 = .ok (.iload_n 1, 1) := by decide +kernel
theorem dX5_does_25 : decode cX5_does 25 = .ok (.iload_n 3, 1) := by decide +kernel
theorem dX5_does_26 : decode cX5_does 26 = .ok (.invokevirtual 91, 3) := by decide +kernel
theorem dX5_does_29 : decode cX5_does 29 = .ok (.istore 6, 2) := by decide +kernel
theorem dX5_does_31 : decode cX5_does 31 = .ok (.iload 6, 2) := by decide +kernel
theorem dX5_does_33 : decode cX5_does 33 = .ok (.ifCond .eq 22, 3) := by decide +kernel
theorem dX5_does_36 : decode cX5_does 36 = .ok (.aload_n 0, 1) := by decide +kernel
theorem dX5_does_37 : decode cX5_does 37 = .ok (.getfield 13, 3) := by decide +kernel
theorem dX5_does_40 : decode cX5_does 40 = .ok (.bipush 60, 2) := by decide +kernel
theorem dX5_does_42 : decode cX5_does 42 = .ok (.iload_n 1, 1) := by decide +kernel
theorem dX5_does_43 : decode cX5_does 43 = .ok (.imul, 1) := by decide +kernel
theorem dX5_does_44 : decode cX5_does 44 = .ok (.aload_n 0, 1) := by decide +kernel
theorem dX5_does_45 : decode cX5_does 45 = .ok (.iload_n 1, 1) := by decide +kernel
theorem dX5_does_46 : decode cX5_does 46 = .ok (.iload_n 3, 1) := by decide +kernel
theorem dX5_does_47 : decode cX5_does 47 = .ok (.invokevirtual 68, 3) := by decide +kernel
theorem dX5_does_50 : decode cX5_does 50 = .ok (.iadd, 1) := by decide +kernel
theorem dX5_does_51 : decode cX5_does 51 = .ok (.iaload, 1) := by decide +kernel
theorem dX5_does_52 : decode cX5_does 52 = .ok (.goto 4, 3) := by decide +kernel
theorem dX5_does_55 : decode cX5_does 55 = .ok (.iconst 0, 1) := by decide +kernel
theorem dX5_does_56 : decode cX5_does 56 = .ok (.istore 7, 2) := by decide +kernel
theorem dX5_does_58 : decode cX5_does 58 = .ok (.iload 5, 2) := by decide +kernel
theorem dX5_does_60 : decode cX5_does 60 = .ok (.bipush 114, 2) := by decide +kernel
theorem dX5_does_62 : decode cX5_does 62 = .ok (.if_icmp .ne 22, 3) := by decide +kernel
theorem dX5_does_65 : decode cX5_does 65 = .ok (.iload 6, 2) := by decide +kernel
theorem dX5_does_67 : decode cX5_does 67 = .ok (.ifCond .eq 14, 3) := by decide +kernel
theorem dX5_does_70 : decode cX5_does 70 = .ok (.aload_n 0, 1) := by decide +kernel
theorem dX5_does_71 : decode cX5_does 71 = .ok (.iload_n 1, 1) := by decide +kernel
theorem dX5_does_72 : decode cX5_does 72 = .ok (.aload_n 0, 1) := by decide +kernel
theorem dX5_does_73 : decode cX5_does 73 = .ok (.iload_n 1, 1) := by decide +kernel
theorem dX5_does_74 : decode cX5_does 74 = .ok (.iload_n 3, 1) := by decide +kernel
theorem dX5_does_75 : decode cX5_does 75 = .ok (.invokevirtual 68, 3) := by decide +kernel
theorem dX5_does_78 : decode cX5_does 78 = .ok (.invokevirtual 79, 3) := by decide +kernel
theorem dX5_does_81 : decode cX5_does 81 = .ok (.iload 6, 2) := by decide +kernel
theorem dX5_does_83 : decode cX5_does 83 = .ok (.ireturn, 1) := by decide +kernel
theorem dX5_does_84 : decode cX5_does 84 = .ok (.iload 5, 2) := by decide +kernel
theorem dX5_does_86 : decode cX5_does 86 = .ok (.bipush 97, 2) := by decide +kernel
theorem dX5_does_88 : decode cX5_does 88 = .ok (.if_icmp .ne 8, 3) := by decide +kernel
theorem dX5_does_91 : decode cX5_does 91 = .ok (.iload 6, 2) := by decide +kernel
theorem dX5_does_93 : decode cX5_does 93 = .ok (.ifCond .ne 15, 3) := by decide +kernel
theorem dX5_does_96 : decode cX5_does 96 = .ok (.iload 5, 2) := by decide +kernel
theorem dX5_does_98 : decode cX5_does 98 = .ok (.bipush 120, 2) := by decide +kernel
theorem dX5_does_100 : decode cX5_does 100 = .ok (.if_icmp .ne 10, 3) := by decide +kernel
theorem dX5_does_103 : decode cX5_does 103 = .ok (.iload 6, 2) := by decide +kernel
theorem dX5_does_105 : decode cX5_does 105 = .ok (.ifCond .ne 5, 3) := by decide +kernel
theorem dX5_does_108 : decode cX5_does 108 = .ok (.iconst 0, 1) := by decide +kernel
theorem dX5_does_109 : decode cX5_does 109 = .ok (.ireturn, 1) := by decide +kernel
theorem dX5_does_110 : decode cX5_does 110 = .ok (.iload 5, 2) := by decide +kernel
theorem dX5_does_112 : decode cX5_does 112 = .ok (.bipush 115, 2) := by decide +kernel
theorem dX5_does_114 : decode cX5_does 114 = .ok (.if_icmp .ne 16, 3) := by decide +kernel
theorem dX5_does_117 : decode cX5_does 117 = .ok (.iload 6, 2) := by decide +kernel
theorem dX5_does_119 : decode cX5_does 119 = .ok (.ifCond .eq 11, 3) := by decide +kernel
theorem dX5_does_122 : decode cX5_does 122 = .ok (.iload 7, 2) := by decide +kernel
theorem dX5_does_124 : decode cX5_does 124 = .ok (.iload 4, 2) := by decide +kernel
theorem dX5_does_126 : decode cX5_does 126 = .ok (.iadd, 1) := by decide +kernel
theorem dX5_does_127 : decode cX5_does 127 = .ok (.goto 5, 3) := by decide +kernel
theorem dX5_does_130 : decode cX5_does 130 = .ok (.iload 4, 2) := by decide +kernel
theorem dX5_does_132 : decode cX5_does 132 = .ok (.istore 8, 2) := by decide +kernel
theorem dX5_does_134 : decode cX5_does 134 = .ok (.aload_n 0, 1) := by decide +kernel
theorem dX5_does_135 : decode cX5_does 135 = .ok (.iload_n 1, 1) := by decide +kernel
theorem dX5_does_136 : decode cX5_does 136 = .ok (.iload_n 3, 1) := by decide +kernel
theorem dX5_does_137 : decode cX5_does 137 = .ok (.iload 8, 2) := by decide +kernel
theorem dX5_does_139 : decode cX5_does 139 = .ok (.invokevirtual 98, 3) := by decide +kernel
theorem dX5_does_142 : decode cX5_does 142 = .ok (.iload 6, 2) := by decide +kernel
theorem dX5_does_144 : decode cX5_does 144 = .ok (.ifCond .eq 10, 3) := by decide +kernel
theorem dX5_does_147 : decode cX5_does 147 = .ok (.iload 8, 2) := by decide +kernel
theorem dX5_does_149 : decode cX5_does 149 = .ok (.iload 7, 2) := by decide +kernel
theorem dX5_does_151 : decode cX5_does 151 = .ok (.if_icmp .eq 7, 3) := by decide +kernel
theorem dX5_does_154 : decode cX5_does 154 = .ok (.iconst 1, 1) := by decide +kernel
theorem dX5_does_155 : decode cX5_does 155 = .ok (.goto 4, 3) := by decide +kernel
theorem dX5_does_158 : decode cX5_does 158 = .ok (.iconst 0, 1) := by decide +kernel
theorem dX5_does_159 : decode cX5_does 159 = .ok (.ireturn, 1) := by decide +kernel
theorem dX5_gathers_0 : decode cX5_gathers 0 = .ok (.iconst 0, 1) := by decide +kernel
theorem dX5_gathers_1 : decode cX5_gathers 1 = .ok (.istore_n 3, 1) := by decide +kernel
theorem dX5_gathers_2 : decode cX5_gathers 2 = .ok (.iload_n 3, 1) := by decide +kernel
theorem dX5_gathers_3 : decode cX5_gathers 3 = .ok (.aload_n 0, 1) := by decide +kernel
theorem dX5_gathers_4 : decode cX5_gathers 4 = .ok (.getfield 51, 3) := by decide +kernel
theorem dX5_gathers_7 : decode cX5_gathers 7 = .ok (.iload_n 1, 1) := by decide +kernel
theorem dX5_gathers_8 : decode cX5_gathers 8 = .ok (.iaload, 1) := by decide +kernel
theorem dX5_gathers_9 : decode cX5_gathers 9 = .ok (.if_icmp .ge 153, 3) := by decide +kernel
theorem dX5_gathers_12 : decode cX5_gathers 12 = .ok (.aload_n 0, 1) := by decide +kernel
theorem dX5_gathers_13 : decode cX5_gathers 13 = .ok (.getfield 45, 3) := by decide +kernel
theorem dX5_gathers_16 : decode cX5_gathers 16 = .ok (.bipush 30, 2) := by decide +kernel
theorem dX5_gathers_18 : decode cX5_gathers 18 = .ok (.iload_n 1, 1) := by decide +kernel
theorem dX5_gathers_19 : decode cX5_gathers 19 = .ok (.imul, 1) := by decide +kernel
theorem dX5_gathers_20 : decode cX5_gathers 20 = .ok (.iload_n 3, 1) := by decide +kernel
theorem dX5_gathers_21 : decode cX5_gathers 21 = .ok (.iadd, 1) := by decide +kernel
theorem dX5_gathers_22 : decode cX5_gathers 22 = .ok (.iaload, 1) := by decide +kernel
theorem dX5_gathers_23 : decode cX5_gathers 23 = .ok (.istore 4, 2) := by decide +kernel
theorem dX5_gathers_25 : decode cX5_gathers 25 = .ok (.iconst 0, 1) := by decide +kernel
theorem dX5_gathers_26 : decode cX5_gathers 26 = .ok (.istore 5, 2) := by decide +kernel
theorem dX5_gathers_28 : decode cX5_gathers 28 = .ok (.iload 5, 2) := by decide +kernel
theorem dX5_gathers_30 : decode cX5_gathers 30 = .ok (.aload_n 0, 1) := by decide +kernel
theorem dX5_gathers_31 : decode cX5_gathers 31 = .ok (.getfield 143, 3) := by decide +kernel
theorem dX5_gathers_34 : decode cX5_gathers 34 = .ok (.if_icmp .ge 21, 3) := by decide +kernel
theorem dX5_gathers_37 : decode cX5_gathers 37 = .ok (.aload_n 0, 1) := by decide +kernel
theorem dX5_gathers_38 : decode cX5_gathers 38 = .ok (.getfield 54, 3) := by decide +kernel
theorem dX5_gathers_41 : decode cX5_gathers 41 = .ok (.iload 5, 2) := by decide +kernel
theorem dX5_gathers_43 : decode cX5_gathers 43 = .ok (.iaload, 1) := by decide +kernel
theorem dX5_gathers_44 : decode cX5_gathers 44 = .ok (.iload 4, 2) := by decide +kernel
theorem dX5_gathers_46 : decode cX5_gathers 46 = .ok (.if_icmp .ge 9, 3) := by decide +kernel
theorem dX5_gathers_49 : decode cX5_gathers 49 = .ok (.iinc 5 1, 3) := by decide +kernel
theorem dX5_gathers_52 : decode cX5_gathers 52 = .ok (.goto (-24), 3) := by decide +kernel
theorem dX5_gathers_55 : decode cX5_gathers 55 = .ok (.iload 5, 2) := by decide +kernel
theorem dX5_gathers_57 : decode cX5_gathers 57 = .ok (.aload_n 0, 1) := by decide +kernel
theorem dX5_gathers_58 : decode cX5_gathers 58 = .ok (.getfield 143, 3) := by decide +kernel
theorem dX5_gathers_61 : decode cX5_gathers 61 = .ok (.if_icmp .ge 19, 3) := by decide +kernel
theorem dX5_gathers_64 : decode cX5_gathers 64 = .ok (.aload_n 0, 1) := by decide +kernel
theorem dX5_gathers_65 : decode cX5_gathers 65 = .ok (.getfield 54, 3) := by decide +kernel
theorem dX5_gathers_68 : decode cX5_gathers 68 = .ok (.iload 5, 2) := by decide +kernel
theorem dX5_gathers_70 : decode cX5_gathers 70 = .ok (.iaload, 1) := by decide +kernel
theorem dX5_gathers_71 : decode cX5_gathers 71 = .ok (.iload 4, 2) := by decide +kernel
theorem dX5_gathers_73 : decode cX5_gathers 73 = .ok (.if_icmp .ne 7, 3) := by decide +kernel
theorem dX5_gathers_76 : decode cX5_gathers 76 = .ok (.iconst 1, 1) := by decide +kernel
theorem dX5_gathers_77 : decode cX5_gathers 77 = .ok (.goto 4, 3) := by decide +kernel
theorem dX5_gathers_80 : decode cX5_gathers 80 = .ok (.iconst 0, 1) := by decide +kernel
theorem dX5_gathers_81 : decode cX5_gathers 81 = .ok (.istore 6, 2) := by decide +kernel
theorem dX5_gathers_83 : decode cX5_gathers 83 = .ok (.iload 6, 2) := by decide +kernel
theorem dX5_gathers_85 : decode cX5_gathers 85 = .ok (.ifCond .ne 71, 3) := by decide +kernel
theorem dX5_gathers_88 : decode cX5_gathers 88 = .ok (.iload_n 2, 1) := by decide +kernel
theorem dX5_gathers_89 : decode cX5_gathers 89 = .ok (.ifCond .lt 13, 3) := by decide +kernel
theorem dX5_gathers_92 : decode cX5_gathers 92 = .ok (.aload_n 0, 1) := by decide +kernel
theorem dX5_gathers_93 : decode cX5_gathers 93 = .ok (.iload_n 2, 1) := by decide +kernel
theorem dX5_gathers_94 : decode cX5_gathers 94 = .ok (.iload 4, 2) := by decide +kernel
theorem dX5_gathers_96 : decode cX5_gathers 96 = .ok (.invokevirtual 91, 3) := by decide +kernel
theorem dX5_gathers_99 : decode cX5_gathers 99 = .ok (.ifCond .ne 57, 3) := by decide +kernel
theorem dX5_gathers_102 : decode cX5_gathers 102 = .ok (.aload_n 0, 1) := by decide +kernel
theorem dX5_gathers_103 : decode cX5_gathers 103 = .ok (.getfield 143, 3) := by decide +kernel
theorem dX5_gathers_106 : decode cX5_gathers 106 = .ok (.istore 7, 2) := by decide +kernel
theorem dX5_gathers_108 : decode cX5_gathers 108 = .ok (.iload 7, 2) := by decide +kernel
theorem dX5_gathers_110 : decode cX5_gathers 110 = .ok (.iload 5, 2) := by decide +kernel
theorem dX5_gathers_112 : decode cX5_gathers 112 = .ok (.if_icmp .le 25, 3) := by decide +kernel
theorem dX5_gathers_115 : decode cX5_gathers 115 = .ok (.aload_n 0, 1) := by decide +kernel
theorem dX5_gathers_116 : decode cX5_gathers 116 = .ok (.getfield 54, 3) := by decide +kernel
theorem dX5_gathers_119 : decode cX5_gathers 119 = .ok (.iload 7, 2) := by decide +kernel
theorem dX5_gathers_121 : decode cX5_gathers 121 = .ok (.aload_n 0, 1) := by decide +kernel
theorem dX5_gathers_122 : decode cX5_gathers 122 = .ok (.getfield 54, 3) := by decide +kernel
theorem dX5_gathers_125 : decode cX5_gathers 125 = .ok (.iload 7, 2) := by decide +kernel
theorem dX5_gathers_127 : decode cX5_gathers 127 = .ok (.iconst 1, 1) := by decide +kernel
theorem dX5_gathers_128 : decode cX5_gathers 128 = .ok (.isub, 1) := by decide +kernel
theorem dX5_gathers_129 : decode cX5_gathers 129 = .ok (.iaload, 1) := by decide +kernel
theorem dX5_gathers_130 : decode cX5_gathers 130 = .ok (.iastore, 1) := by decide +kernel
theorem dX5_gathers_131 : decode cX5_gathers 131 = .ok (.iinc 7 (-1), 3) := by decide +kernel
theorem dX5_gathers_134 : decode cX5_gathers 134 = .ok (.goto (-26), 3) := by decide +kernel
theorem dX5_gathers_137 : decode cX5_gathers 137 = .ok (.aload_n 0, 1) := by decide +kernel
theorem dX5_gathers_138 : decode cX5_gathers 138 = .ok (.getfield 54, 3) := by decide +kernel
theorem dX5_gathers_141 : decode cX5_gathers 141 = .ok (.iload 5, 2) := by decide +kernel
theorem dX5_gathers_143 : decode cX5_gathers 143 = .ok (.iload 4, 2) := by decide +kernel
theorem dX5_gathers_145 : decode cX5_gathers 145 = .ok (.iastore, 1) := by decide +kernel
theorem dX5_gathers_146 : decode cX5_gathers 146 = .ok (.aload_n 0, 1) := by decide +kernel
theorem dX5_gathers_147 : decode cX5_gathers 147 = .ok (.dup, 1) := by decide +kernel
theorem dX5_gathers_148 : decode cX5_gathers 148 = .ok (.getfield 143, 3) := by decide +kernel
theorem dX5_gathers_151 : decode cX5_gathers 151 = .ok (.iconst 1, 1) := by decide +kernel
theorem dX5_gathers_152 : decode cX5_gathers 152 = .ok (.iadd, 1) := by decide +kernel
theorem dX5_gathers_153 : decode cX5_gathers 153 = .ok (.putfield 143, 3) := by decide +kernel
theorem dX5_gathers_156 : decode cX5_gathers 156 = .ok (.iinc 3 1, 3) := by decide +kernel
theorem dX5_gathers_159 : decode cX5_gathers 159 = .ok (.goto (-157), 3) := by decide +kernel
theorem dX5_gathers_162 : decode cX5_gathers 162 = .ok (.return_, 1) := by decide +kernel
theorem dX5_isTooMuch_0 : decode cX5_isTooMuch 0 = .ok (.aload_n 0, 1) := by decide +kernel
theorem dX5_isTooMuch_1 : decode cX5_isTooMuch 1 = .ok (.iconst 0, 1) := by decide +kernel
theorem dX5_isTooMuch_2 : decode cX5_isTooMuch 2 = .ok (.putfield 143, 3) := by decide +kernel
theorem dX5_isTooMuch_5 : decode cX5_isTooMuch 5 = .ok (.aload_n 0, 1) := by decide +kernel
theorem dX5_isTooMuch_6 : decode cX5_isTooMuch 6 = .ok (.iload_n 1, 1) := by decide +kernel
theorem dX5_isTooMuch_7 : decode cX5_isTooMuch 7 = .ok (.iload_n 3, 1) := by decide +kernel
theorem dX5_isTooMuch_8 : decode cX5_isTooMuch 8 = .ok (.invokevirtual 146, 3) := by decide +kernel
theorem dX5_isTooMuch_11 : decode cX5_isTooMuch 11 = .ok (.aload_n 0, 1) := by decide +kernel
theorem dX5_isTooMuch_12 : decode cX5_isTooMuch 12 = .ok (.iload_n 2, 1) := by decide +kernel
theorem dX5_isTooMuch_13 : decode cX5_isTooMuch 13 = .ok (.iload_n 3, 1) := by decide +kernel
theorem dX5_isTooMuch_14 : decode cX5_isTooMuch 14 = .ok (.invokevirtual 146, 3) := by decide +kernel
theorem dX5_isTooMuch_17 : decode cX5_isTooMuch 17 = .ok (.aload_n 0, 1) := by decide +kernel
theorem dX5_isTooMuch_18 : decode cX5_isTooMuch 18 = .ok (.getfield 16, 3) := by decide +kernel
theorem dX5_isTooMuch_21 : decode cX5_isTooMuch 21 = .ok (.iload_n 3, 1) := by decide +kernel
theorem dX5_isTooMuch_22 : decode cX5_isTooMuch 22 = .ok (.iaload, 1) := by decide +kernel
theorem dX5_isTooMuch_23 : decode cX5_isTooMuch 23 = .ok (.aload_n 0, 1) := by decide +kernel
theorem dX5_isTooMuch_24 : decode cX5_isTooMuch 24 = .ok (.getfield 143, 3) := by decide +kernel
theorem dX5_isTooMuch_27 : decode cX5_isTooMuch 27 = .ok (.iadd, 1) := by decide +kernel
theorem dX5_isTooMuch_28 : decode cX5_isTooMuch 28 = .ok (.bipush 60, 2) := by decide +kernel
theorem dX5_isTooMuch_30 : decode cX5_isTooMuch 30 = .ok (.if_icmp .le 7, 3) := by decide +kernel
theorem dX5_isTooMuch_33 : decode cX5_isTooMuch 33 = .ok (.iconst 1, 1) := by decide +kernel
theorem dX5_isTooMuch_34 : decode cX5_isTooMuch 34 = .ok (.goto 4, 3) := by decide +kernel
theorem dX5_isTooMuch_37 : decode cX5_isTooMuch 37 = .ok (.iconst 0, 1) := by decide +kernel
theorem dX5_isTooMuch_38 : decode cX5_isTooMuch 38 = .ok (.ireturn, 1) := by decide +kernel
theorem dX5_play_0 : decode cX5_play 0 = .ok (.aload_n 0, 1) := by decide +kernel
theorem dX5_play_1 : decode cX5_play 1 = .ok (.iload_n 1, 1) := by decide +kernel
theorem dX5_play_2 : decode cX5_play 2 = .ok (.invokestatic 136, 3) := by decide +kernel
theorem dX5_play_5 : decode cX5_play 5 = .ok (.ifCond .eq 10, 3) := by decide +kernel
theorem dX5_play_8 : decode cX5_play 8 = .ok (.iload_n 2, 1) := by decide +kernel
theorem dX5_play_9 : decode cX5_play 9 = .ok (.invokestatic 87, 3) := by decide +kernel
theorem dX5_play_12 : decode cX5_play 12 = .ok (.ifCond .ne 7, 3) := by decide +kernel
theorem dX5_play_15 : decode cX5_play 15 = .ok (.iconst 1, 1) := by decide +kernel
theorem dX5_play_16 : decode cX5_play 16 = .ok (.goto 18, 3) := by decide +kernel
theorem dX5_play_19 : decode cX5_play 19 = .ok (.aload_n 0, 1) := by decide +kernel
theorem dX5_play_20 : decode cX5_play 20 = .ok (.iload_n 1, 1) := by decide +kernel
theorem dX5_play_21 : decode cX5_play 21 = .ok (.iload_n 1, 1) := by decide +kernel
theorem dX5_play_22 : decode cX5_play 22 = .ok (.iload_n 2, 1) := by decide +kernel
theorem dX5_play_23 : decode cX5_play 23 = .ok (.invokevirtual 149, 3) := by decide +kernel
theorem dX5_play_26 : decode cX5_play 26 = .ok (.ifCond .eq 7, 3) := by decide +kernel
theorem dX5_play_29 : decode cX5_play 29 = .ok (.iconst 2, 1) := by decide +kernel
theorem dX5_play_30 : decode cX5_play 30 = .ok (.goto 4, 3) := by decide +kernel
theorem dX5_play_33 : decode cX5_play 33 = .ok (.iconst 0, 1) := by decide +kernel
theorem dX5_play_34 : decode cX5_play 34 = .ok (.invokevirtual 95, 3) := by decide +kernel
theorem dX5_play_37 : decode cX5_play 37 = .ok (.ifCond .eq 5, 3) := by decide +kernel
theorem dX5_play_40 : decode cX5_play 40 = .ok (.iconst 0, 1) := by decide +kernel
theorem dX5_play_41 : decode cX5_play 41 = .ok (.ireturn, 1) := by decide +kernel
theorem dX5_play_42 : decode cX5_play 42 = .ok (.iconst 0, 1) := by decide +kernel
theorem dX5_play_43 : decode cX5_play 43 = .ok (.istore_n 3, 1) := by decide +kernel
theorem dX5_play_44 : decode cX5_play 44 = .ok (.iconst 0, 1) := by decide +kernel
theorem dX5_play_45 : decode cX5_play 45 = .ok (.istore 4, 2) := by decide +kernel
theorem dX5_play_47 : decode cX5_play 47 = .ok (.iload 4, 2) := by decide +kernel
theorem dX5_play_49 : decode cX5_play 49 = .ok (.aload_n 0, 1) := by decide +kernel
theorem dX5_play_50 : decode cX5_play 50 = .ok (.getfield 51, 3) := by decide +kernel
theorem dX5_play_53 : decode cX5_play 53 = .ok (.iload_n 1, 1) := by decide +kernel
theorem dX5_play_54 : decode cX5_play 54 = .ok (.iaload, 1) := by decide +kernel
theorem dX5_play_55 : decode cX5_play 55 = .ok (.if_icmp .ge 32, 3) := by decide +kernel
theorem dX5_play_58 : decode cX5_play 58 = .ok (.iload_n 3, 1) := by decide +kernel
theorem dX5_play_59 : decode cX5_play 59 = .ok (.aload_n 0, 1) := by decide +kernel
theorem dX5_play_60 : decode cX5_play 60 = .ok (.iload_n 2, 1) := by decide +kernel
theorem dX5_play_61 : decode cX5_play 61 = .ok (.bipush 30, 2) := by decide +kernel
theorem dX5_play_63 : decode cX5_play 63 = .ok (.iload_n 1, 1) := by decide +kernel
theorem dX5_play_64 : decode cX5_play 64 = .ok (.imul, 1) := by decide +kernel
theorem dX5_play_65 : decode cX5_play 65 = .ok (.iload 4, 2) := by decide +kernel
theorem dX5_play_67 : decode cX5_play 67 = .ok (.iadd, 1) := by decide +kernel
theorem dX5_play_68 : decode cX5_play 68 = .ok (.invokevirtual 152, 3) := by decide +kernel
theorem dX5_play_71 : decode cX5_play 71 = .ok (.ifCond .eq 7, 3) := by decide +kernel
theorem dX5_play_74 : decode cX5_play 74 = .ok (.iconst 1, 1) := by decide +kernel
theorem dX5_play_75 : decode cX5_play 75 = .ok (.goto 4, 3) := by decide +kernel
theorem dX5_play_78 : decode cX5_play 78 = .ok (.iconst 0, 1) := by decide +kernel
theorem dX5_play_79 : decode cX5_play 79 = .ok (.iadd, 1) := by decide +kernel
theorem dX5_play_80 : decode cX5_play 80 = .ok (.istore_n 3, 1) := by decide +kernel
theorem dX5_play_81 : decode cX5_play 81 = .ok (.iinc 4 1, 3) := by decide +kernel
theorem dX5_play_84 : decode cX5_play 84 = .ok (.goto (-37), 3) := by decide +kernel
theorem dX5_play_87 : decode cX5_play 87 = .ok (.iload_n 3, 1) := by decide +kernel
theorem dX5_play_88 : decode cX5_play 88 = .ok (.ireturn, 1) := by decide +kernel
theorem dX5_playBoth_0 : decode cX5_playBoth 0 = .ok (.aload_n 0, 1) := by decide +kernel
theorem dX5_playBoth_1 : decode cX5_playBoth 1 = .ok (.iload_n 1, 1) := by decide +kernel
theorem dX5_playBoth_2 : decode cX5_playBoth 2 = .ok (.invokestatic 136, 3) := by decide +kernel
theorem dX5_playBoth_5 : decode cX5_playBoth 5 = .ok (.ifCond .eq 18, 3) := by decide +kernel
theorem dX5_playBoth_8 : decode cX5_playBoth 8 = .ok (.iload_n 2, 1) := by decide +kernel
theorem dX5_playBoth_9 : decode cX5_playBoth 9 = .ok (.invokestatic 136, 3) := by decide +kernel
theorem dX5_playBoth_12 : decode cX5_playBoth 12 = .ok (.ifCond .eq 11, 3) := by decide +kernel
theorem dX5_playBoth_15 : decode cX5_playBoth 15 = .ok (.iload 4, 2) := by decide +kernel
theorem dX5_playBoth_17 : decode cX5_playBoth 17 = .ok (.invokestatic 87, 3) := by decide +kernel
theorem dX5_playBoth_20 : decode cX5_playBoth 20 = .ok (.ifCond .ne 7, 3) := by decide +kernel
theorem dX5_playBoth_23 : decode cX5_playBoth 23 = .ok (.iconst 1, 1) := by decide +kernel
theorem dX5_playBoth_24 : decode cX5_playBoth 24 = .ok (.goto 19, 3) := by decide +kernel
theorem dX5_playBoth_27 : decode cX5_playBoth 27 = .ok (.aload_n 0, 1) := by decide +kernel
theorem dX5_playBoth_28 : decode cX5_playBoth 28 = .ok (.iload_n 1, 1) := by decide +kernel
theorem dX5_playBoth_29 : decode cX5_playBoth 29 = .ok (.iload_n 2, 1) := by decide +kernel
theorem dX5_playBoth_30 : decode cX5_playBoth 30 = .ok (.iload 4, 2) := by decide +kernel
theorem dX5_playBoth_32 : decode cX5_playBoth 32 = .ok (.invokevirtual 149, 3) := by decide +kernel
theorem dX5_playBoth_35 : decode cX5_playBoth 35 = .ok (.ifCond .eq 7, 3) := by decide +kernel
theorem dX5_playBoth_38 : decode cX5_playBoth 38 = .ok (.iconst 2, 1) := by decide +kernel
theorem dX5_playBoth_39 : decode cX5_playBoth 39 = .ok (.goto 4, 3) := by decide +kernel
theorem dX5_playBoth_42 : decode cX5_playBoth 42 = .ok (.iconst 0, 1) := by decide +kernel
theorem dX5_playBoth_43 : decode cX5_playBoth 43 = .ok (.invokevirtual 95, 3) := by decide +kernel
theorem dX5_playBoth_46 : decode cX5_playBoth 46 = .ok (.ifCond .eq 5, 3) := by decide +kernel
theorem dX5_playBoth_49 : decode cX5_playBoth 49 = .ok (.iconst 0, 1) := by decide +kernel
theorem dX5_playBoth_50 : decode cX5_playBoth 50 = .ok (.ireturn, 1) := by decide +kernel
theorem dX5_playBoth_51 : decode cX5_playBoth 51 = .ok (.iconst 0, 1) := by decide +kernel
theorem dX5_playBoth_52 : decode cX5_playBoth 52 = .ok (.istore 5, 2) := by decide +kernel
theorem dX5_playBoth_54 : decode cX5_playBoth 54 = .ok (.iconst 0, 1) := by decide +kernel
theorem dX5_playBoth_55 : decode cX5_playBoth 55 = .ok (.istore 6, 2) := by decide +kernel
theorem dX5_playBoth_57 : decode cX5_playBoth 57 = .ok (.iconst 0, 1) := by decide +kernel
theorem dX5_playBoth_58 : decode cX5_playBoth 58 = .ok (.istore 7, 2) := by decide +kernel
theorem dX5_playBoth_60 : decode cX5_playBoth 60 = .ok (.iload 5, 2) := by decide +kernel
theorem dX5_playBoth_62 : decode cX5_playBoth 62 = .ok (.aload_n 0, 1) := by decide +kernel
theorem dX5_playBoth_63 : decode cX5_playBoth 63 = .ok (.getfield 51, 3) := by decide +kernel
theorem dX5_playBoth_66 : decode cX5_playBoth 66 = .ok (.iload_n 1, 1) := by decide +kernel
theorem dX5_playBoth_67 : decode cX5_playBoth 67 = .ok (.iaload, 1) := by decide +kernel
theorem dX5_playBoth_68 : decode cX5_playBoth 68 = .ok (.if_icmp .lt 14, 3) := by decide +kernel
theorem dX5_playBoth_71 : decode cX5_playBoth 71 = .ok (.iload 6, 2) := by decide +kernel
theorem dX5_playBoth_73 : decode cX5_playBoth 73 = .ok (.aload_n 0, 1) := by decide +kernel
theorem dX5_playBoth_74 : decode cX5_playBoth 74 = .ok (.getfield 51, 3) := by decide +kernel
theorem dX5_playBoth_77 : decode cX5_playBoth 77 = .ok (.iload_n 2, 1) := by decide +kernel
theorem dX5_playBoth_78 : decode cX5_playBoth 78 = .ok (.iaload, 1) := by decide +kernel
theorem dX5_playBoth_79 : decode cX5_playBoth 79 = .ok (.if_icmp .ge 123, 3) := by decide +kernel
theorem dX5_playBoth_82 : decode cX5_playBoth 82 = .ok (.iload_n 3, 1) := by decide +kernel
theorem dX5_playBoth_83 : decode cX5_playBoth 83 = .ok (.iload 7, 2) := by decide +kernel
theorem dX5_playBoth_85 : decode cX5_playBoth 85 = .ok (.bipush 32, 2) := by decide +kernel
theorem dX5_playBoth_87 : decode cX5_playBoth 87 = .ok (.irem, 1) := by decide +kernel
theorem dX5_playBoth_88 : decode cX5_playBoth 88 = .ok (.iushr, 1) := by decide +kernel
theorem dX5_playBoth_89 : decode cX5_playBoth 89 = .ok (.iconst 1, 1) := by decide +kernel
theorem dX5_playBoth_90 : decode cX5_playBoth 90 = .ok (.iand, 1) := by decide +kernel
theorem dX5_playBoth_91 : decode cX5_playBoth 91 = .ok (.iconst 1, 1) := by decide +kernel
theorem dX5_playBoth_92 : decode cX5_playBoth 92 = .ok (.if_icmp .ne 7, 3) := by decide +kernel
theorem dX5_playBoth_95 : decode cX5_playBoth 95 = .ok (.iconst 1, 1) := by decide +kernel
theorem dX5_playBoth_96 : decode cX5_playBoth 96 = .ok (.goto 4, 3) := by decide +kernel
theorem dX5_playBoth_99 : decode cX5_playBoth 99 = .ok (.iconst 0, 1) := by decide +kernel
theorem dX5_playBoth_100 : decode cX5_playBoth 100 = .ok (.istore 8, 2) := by decide +kernel
theorem dX5_playBoth_102 : decode cX5_playBoth 102 = .ok (.iload 5, 2) := by decide +kernel
theorem dX5_playBoth_104 : decode cX5_playBoth 104 = .ok (.aload_n 0, 1) := by decide +kernel
theorem dX5_playBoth_105 : decode cX5_playBoth 105 = .ok (.getfield 51, 3) := by decide +kernel
theorem dX5_playBoth_108 : decode cX5_playBoth 108 = .ok (.iload_n 1, 1) := by decide +kernel
theorem dX5_playBoth_109 : decode cX5_playBoth 109 = .ok (.iaload, 1) := by decide +kernel
theorem dX5_playBoth_110 : decode cX5_playBoth 110 = .ok (.if_icmp .eq 19, 3) := by decide +kernel
theorem dX5_playBoth_113 : decode cX5_playBoth 113 = .ok (.iload 8, 2) := by decide +kernel
theorem dX5_playBoth_115 : decode cX5_playBoth 115 = .ok (.ifCond .eq 18, 3) := by decide +kernel
theorem dX5_playBoth_118 : decode cX5_playBoth 118 = .ok (.iload 6, 2) := by decide +kernel
theorem dX5_playBoth_120 : decode cX5_playBoth 120 = .ok (.aload_n 0, 1) := by decide +kernel
theorem dX5_playBoth_121 : decode cX5_playBoth 121 = .ok (.getfield 51, 3) := by decide +kernel
theorem dX5_playBoth_124 : decode cX5_playBoth 124 = .ok (.iload_n 2, 1) := by decide +kernel
theorem dX5_playBoth_125 : decode cX5_playBoth 125 = .ok (.iaload, 1) := by decide +kernel
theorem dX5_playBoth_126 : decode cX5_playBoth 126 = .ok (.if_icmp .ge 7, 3) := by decide +kernel
theorem dX5_playBoth_129 : decode cX5_playBoth 129 = .ok (.iconst 1, 1) := by decide +kernel
theorem dX5_playBoth_130 : decode cX5_playBoth 130 = .ok (.goto 4, 3) := by decide +kernel
theorem dX5_playBoth_133 : decode cX5_playBoth 133 = .ok (.iconst 0, 1) := by decide +kernel
theorem dX5_playBoth_134 : decode cX5_playBoth 134 = .ok (.istore 8, 2) := by decide +kernel
theorem dX5_playBoth_136 : decode cX5_playBoth 136 = .ok (.aload_n 0, 1) := by decide +kernel
theorem dX5_playBoth_137 : decode cX5_playBoth 137 = .ok (.iload 4, 2) := by decide +kernel
theorem dX5_playBoth_139 : decode cX5_playBoth 139 = .ok (.iload 8, 2) := by decide +kernel
theorem dX5_playBoth_141 : decode cX5_playBoth 141 = .ok (.ifCond .eq 13, 3) := by decide +kernel
theorem dX5_playBoth_144 : decode cX5_playBoth 144 = .ok (.bipush 30, 2) := by decide +kernel
theorem dX5_playBoth_146 : decode cX5_playBoth 146 = .ok (.iload_n 2, 1) := by decide +kernel
theorem dX5_playBoth_147 : decode cX5_playBoth 147 = .ok (.imul, 1) := by decide +kernel
theorem dX5_playBoth_148 : decode cX5_playBoth 148 = .ok (.iload 6, 2) := by decide +kernel
theorem dX5_playBoth_150 : decode cX5_playBoth 150 = .ok (.iadd, 1) := by decide +kernel
theorem dX5_playBoth_151 : decode cX5_playBoth 151 = .ok (.goto 10, 3) := by decide +kernel
theorem dX5_playBoth_154 : decode cX5_playBoth 154 = .ok (.bipush 30, 2) := by decide +kernel
theorem dX5_playBoth_156 : decode cX5_playBoth 156 = .ok (.iload_n 1, 1) := by decide +kernel
theorem dX5_playBoth_157 : decode cX5_playBoth 157 = .ok (.imul, 1) := by decide +kernel
theorem dX5_playBoth_158 : decode cX5_playBoth 158 = .ok (.iload 5, 2) := by decide +kernel
theorem dX5_playBoth_160 : decode cX5_playBoth 160 = .ok (.iadd, 1) := by decide +kernel
theorem dX5_playBoth_161 : decode cX5_playBoth 161 = .ok (.invokevirtual 152, 3) := by decide +kernel
theorem dX5_playBoth_164 : decode cX5_playBoth 164 = .ok (.istore 9, 2) := by decide +kernel
theorem dX5_playBoth_166 : decode cX5_playBoth 166 = .ok (.iload 5, 2) := by decide +kernel
theorem dX5_playBoth_168 : decode cX5_playBoth 168 = .ok (.iload 8, 2) := by decide +kernel
theorem dX5_playBoth_170 : decode cX5_playBoth 170 = .ok (.ifCond .eq 7, 3) := by decide +kernel
theorem dX5_playBoth_173 : decode cX5_playBoth 173 = .ok (.iconst 0, 1) := by decide +kernel
theorem dX5_playBoth_174 : decode cX5_playBoth 174 = .ok (.goto 4, 3) := by decide +kernel
theorem dX5_playBoth_177 : decode cX5_playBoth 177 = .ok (.iconst 1, 1) := by decide +kernel
theorem dX5_playBoth_178 : decode cX5_playBoth 178 = .ok (.iadd, 1) := by decide +kernel
theorem dX5_playBoth_179 : decode cX5_playBoth 179 = .ok (.istore 5, 2) := by decide +kernel
theorem dX5_playBoth_181 : decode cX5_playBoth 181 = .ok (.iload 6, 2) := by decide +kernel
theorem dX5_playBoth_183 : decode cX5_playBoth 183 = .ok (.iload 8, 2) := by decide +kernel
theorem dX5_playBoth_185 : decode cX5_playBoth 185 = .ok (.ifCond .eq 7, 3) := by decide +kernel
theorem dX5_playBoth_188 : decode cX5_playBoth 188 = .ok (.iconst 1, 1) := by decide +kernel
theorem dX5_playBoth_189 : decode cX5_playBoth 189 = .ok (.goto 4, 3) := by decide +kernel
theorem dX5_playBoth_192 : decode cX5_playBoth 192 = .ok (.iconst 0, 1) := by decide +kernel
theorem dX5_playBoth_193 : decode cX5_playBoth 193 = .ok (.iadd, 1) := by decide +kernel
theorem dX5_playBoth_194 : decode cX5_playBoth 194 = .ok (.istore 6, 2) := by decide +kernel
theorem dX5_playBoth_196 : decode cX5_playBoth 196 = .ok (.iinc 7 1, 3) := by decide +kernel
theorem dX5_playBoth_199 : decode cX5_playBoth 199 = .ok (.goto (-139), 3) := by decide +kernel
theorem dX5_playBoth_202 : decode cX5_playBoth 202 = .ok (.aload_n 0, 1) := by decide +kernel
theorem dX5_playBoth_203 : decode cX5_playBoth 203 = .ok (.getfield 16, 3) := by decide +kernel
theorem dX5_playBoth_206 : decode cX5_playBoth 206 = .ok (.iload 4, 2) := by decide +kernel
theorem dX5_playBoth_208 : decode cX5_playBoth 208 = .ok (.iaload, 1) := by decide +kernel
theorem dX5_playBoth_209 : decode cX5_playBoth 209 = .ok (.ireturn, 1) := by decide +kernel
theorem dX5_hasKey_0 : decode cX5_hasKey 0 = .ok (.iconst 0, 1) := by decide +kernel
theorem dX5_hasKey_1 : decode cX5_hasKey 1 = .ok (.istore_n 3, 1) := by decide +kernel
theorem dX5_hasKey_2 : decode cX5_hasKey 2 = .ok (.iconst 0, 1) := by decide +kernel
theorem dX5_hasKey_3 : decode cX5_hasKey 3 = .ok (.istore 4, 2) := by decide +kernel
theorem dX5_hasKey_5 : decode cX5_hasKey 5 = .ok (.iload 4, 2) := by decide +kernel
theorem dX5_hasKey_7 : decode cX5_hasKey 7 = .ok (.aload_n 0, 1) := by decide +kernel
theorem dX5_hasKey_8 : decode cX5_hasKey 8 = .ok (.getfield 51, 3) := by decide +kernel
theorem dX5_hasKey_11 : decode cX5_hasKey 11 = .ok (.iload_n 1, 1) := by decide +kernel
theorem dX5_hasKey_12 : decode cX5_hasKey 12 = .ok (.iaload, 1) := by decide +kernel
theorem dX5_hasKey_13 : decode cX5_hasKey 13 = .ok (.if_icmp .ge 35, 3) := by decide +kernel
theorem dX5_hasKey_16 : decode cX5_hasKey 16 = .ok (.iload_n 3, 1) := by decide +kernel
theorem dX5_hasKey_17 : decode cX5_hasKey 17 = .ok (.ifCond .ne 19, 3) := by decide +kernel
theorem dX5_hasKey_20 : decode cX5_hasKey 20 = .ok (.aload_n 0, 1) := by decide +kernel
theorem dX5_hasKey_21 : decode cX5_hasKey 21 = .ok (.getfield 45, 3) := by decide +kernel
theorem dX5_hasKey_24 : decode cX5_hasKey 24 = .ok (.bipush 30, 2) := by decide +kernel
theorem dX5_hasKey_26 : decode cX5_hasKey 26 = .ok (.iload_n 1, 1) := by decide +kernel
theorem dX5_hasKey_27 : decode cX5_hasKey 27 = .ok (.imul, 1) := by decide +kernel
theorem dX5_hasKey_28 : decode cX5_hasKey 28 = .ok (.iload 4, 2) := by decide +kernel
theorem dX5_hasKey_30 : decode cX5_hasKey 30 = .ok (.iadd, 1) := by decide +kernel
theorem dX5_hasKey_31 : decode cX5_hasKey 31 = .ok (.iaload, 1) := by decide +kernel
theorem dX5_hasKey_32 : decode cX5_hasKey 32 = .ok (.iload_n 2, 1) := by decide +kernel
theorem dX5_hasKey_33 : decode cX5_hasKey 33 = .ok (.if_icmp .ne 7, 3) := by decide +kernel
theorem dX5_hasKey_36 : decode cX5_hasKey 36 = .ok (.iconst 1, 1) := by decide +kernel
theorem dX5_hasKey_37 : decode cX5_hasKey 37 = .ok (.goto 4, 3) := by decide +kernel
theorem dX5_hasKey_40 : decode cX5_hasKey 40 = .ok (.iconst 0, 1) := by decide +kernel
theorem dX5_hasKey_41 : decode cX5_hasKey 41 = .ok (.istore_n 3, 1) := by decide +kernel
theorem dX5_hasKey_42 : decode cX5_hasKey 42 = .ok (.iinc 4 1, 3) := by decide +kernel
theorem dX5_hasKey_45 : decode cX5_hasKey 45 = .ok (.goto (-40), 3) := by decide +kernel
theorem dX5_hasKey_48 : decode cX5_hasKey 48 = .ok (.iload_n 3, 1) := by decide +kernel
theorem dX5_hasKey_49 : decode cX5_hasKey 49 = .ok (.ireturn, 1) := by decide +kernel
theorem dX5_meet_0 : decode cX5_meet 0 = .ok (.aload_n 0, 1) := by decide +kernel
theorem dX5_meet_1 : decode cX5_meet 1 = .ok (.iload_n 1, 1) := by decide +kernel
theorem dX5_meet_2 : decode cX5_meet 2 = .ok (.invokestatic 136, 3) := by decide +kernel
theorem dX5_meet_5 : decode cX5_meet 5 = .ok (.ifCond .eq 10, 3) := by decide +kernel
theorem dX5_meet_8 : decode cX5_meet 8 = .ok (.iload_n 2, 1) := by decide +kernel
theorem dX5_meet_9 : decode cX5_meet 9 = .ok (.invokestatic 136, 3) := by decide +kernel
theorem dX5_meet_12 : decode cX5_meet 12 = .ok (.ifCond .ne 7, 3) := by decide +kernel
theorem dX5_meet_15 : decode cX5_meet 15 = .ok (.iconst 1, 1) := by decide +kernel
theorem dX5_meet_16 : decode cX5_meet 16 = .ok (.goto 4, 3) := by decide +kernel
theorem dX5_meet_19 : decode cX5_meet 19 = .ok (.iconst 0, 1) := by decide +kernel
theorem dX5_meet_20 : decode cX5_meet 20 = .ok (.invokevirtual 95, 3) := by decide +kernel
theorem dX5_meet_23 : decode cX5_meet 23 = .ok (.ifCond .eq 5, 3) := by decide +kernel
theorem dX5_meet_26 : decode cX5_meet 26 = .ok (.iconst 0, 1) := by decide +kernel
theorem dX5_meet_27 : decode cX5_meet 27 = .ok (.ireturn, 1) := by decide +kernel
theorem dX5_meet_28 : decode cX5_meet 28 = .ok (.aload_n 0, 1) := by decide +kernel
theorem dX5_meet_29 : decode cX5_meet 29 = .ok (.iconst 0, 1) := by decide +kernel
theorem dX5_meet_30 : decode cX5_meet 30 = .ok (.putfield 143, 3) := by decide +kernel
theorem dX5_meet_33 : decode cX5_meet 33 = .ok (.aload_n 0, 1) := by decide +kernel
theorem dX5_meet_34 : decode cX5_meet 34 = .ok (.iload_n 1, 1) := by decide +kernel
theorem dX5_meet_35 : decode cX5_meet 35 = .ok (.iconst (-1), 1) := by decide +kernel
theorem dX5_meet_36 : decode cX5_meet 36 = .ok (.invokevirtual 146, 3) := by decide +kernel
theorem dX5_meet_39 : decode cX5_meet 39 = .ok (.iconst 0, 1) := by decide +kernel
theorem dX5_meet_40 : decode cX5_meet 40 = .ok (.istore_n 3, 1) := by decide +kernel
theorem dX5_meet_41 : decode cX5_meet 41 = .ok (.iconst 0, 1) := by decide +kernel
theorem dX5_meet_42 : decode cX5_meet 42 = .ok (.istore 4, 2) := by decide +kernel
theorem dX5_meet_44 : decode cX5_meet 44 = .ok (.iload 4, 2) := by decide +kernel
theorem dX5_meet_46 : decode cX5_meet 46 = .ok (.aload_n 0, 1) := by decide +kernel
theorem dX5_meet_47 : decode cX5_meet 47 = .ok (.getfield 143, 3) := by decide +kernel
theorem dX5_meet_50 : decode cX5_meet 50 = .ok (.if_icmp .ge 32, 3) := by decide +kernel
theorem dX5_meet_53 : decode cX5_meet 53 = .ok (.iload_n 3, 1) := by decide +kernel
theorem dX5_meet_54 : decode cX5_meet 54 = .ok (.aload_n 0, 1) := by decide +kernel
theorem dX5_meet_55 : decode cX5_meet 55 = .ok (.iload_n 2, 1) := by decide +kernel
theorem dX5_meet_56 : decode cX5_meet 56 = .ok (.aload_n 0, 1) := by decide +kernel
theorem dX5_meet_57 : decode cX5_meet 57 = .ok (.getfield 54, 3) := by decide +kernel
theorem dX5_meet_60 : decode cX5_meet 60 = .ok (.iload 4, 2) := by decide +kernel
theorem dX5_meet_62 : decode cX5_meet 62 = .ok (.iaload, 1) := by decide +kernel
theorem dX5_meet_63 : decode cX5_meet 63 = .ok (.invokevirtual 155, 3) := by decide +kernel
theorem dX5_meet_66 : decode cX5_meet 66 = .ok (.ifCond .eq 7, 3) := by decide +kernel
theorem dX5_meet_69 : decode cX5_meet 69 = .ok (.iconst 1, 1) := by decide +kernel
theorem dX5_meet_70 : decode cX5_meet 70 = .ok (.goto 4, 3) := by decide +kernel
theorem dX5_meet_73 : decode cX5_meet 73 = .ok (.iconst 0, 1) := by decide +kernel
theorem dX5_meet_74 : decode cX5_meet 74 = .ok (.iadd, 1) := by decide +kernel
theorem dX5_meet_75 : decode cX5_meet 75 = .ok (.istore_n 3, 1) := by decide +kernel
theorem dX5_meet_76 : decode cX5_meet 76 = .ok (.iinc 4 1, 3) := by decide +kernel
theorem dX5_meet_79 : decode cX5_meet 79 = .ok (.goto (-35), 3) := by decide +kernel
theorem dX5_meet_82 : decode cX5_meet 82 = .ok (.iload_n 3, 1) := by decide +kernel
theorem dX5_meet_83 : decode cX5_meet 83 = .ok (.ireturn, 1) := by decide +kernel
theorem dX5_opposite_0 : decode cX5_opposite 0 = .ok (.aload_n 0, 1) := by decide +kernel
theorem dX5_opposite_1 : decode cX5_opposite 1 = .ok (.iload_n 1, 1) := by decide +kernel
theorem dX5_opposite_2 : decode cX5_opposite 2 = .ok (.invokestatic 136, 3) := by decide +kernel
theorem dX5_opposite_5 : decode cX5_opposite 5 = .ok (.ifCond .eq 17, 3) := by decide +kernel
theorem dX5_opposite_8 : decode cX5_opposite 8 = .ok (.iload_n 2, 1) := by decide +kernel
theorem dX5_opposite_9 : decode cX5_opposite 9 = .ok (.invokestatic 87, 3) := by decide +kernel
theorem dX5_opposite_12 : decode cX5_opposite 12 = .ok (.ifCond .eq 10, 3) := by decide +kernel
theorem dX5_opposite_15 : decode cX5_opposite 15 = .ok (.iload_n 3, 1) := by decide +kernel
theorem dX5_opposite_16 : decode cX5_opposite 16 = .ok (.invokestatic 136, 3) := by decide +kernel
theorem dX5_opposite_19 : decode cX5_opposite 19 = .ok (.ifCond .ne 7, 3) := by decide +kernel
theorem dX5_opposite_22 : decode cX5_opposite 22 = .ok (.iconst 1, 1) := by decide +kernel
theorem dX5_opposite_23 : decode cX5_opposite 23 = .ok (.goto 4, 3) := by decide +kernel
theorem dX5_opposite_26 : decode cX5_opposite 26 = .ok (.iconst 0, 1) := by decide +kernel
theorem dX5_opposite_27 : decode cX5_opposite 27 = .ok (.invokevirtual 95, 3) := by decide +kernel
theorem dX5_opposite_30 : decode cX5_opposite 30 = .ok (.ifCond .eq 5, 3) := by decide +kernel
theorem dX5_opposite_33 : decode cX5_opposite 33 = .ok (.iconst 0, 1) := by decide +kernel
theorem dX5_opposite_34 : decode cX5_opposite 34 = .ok (.ireturn, 1) := by decide +kernel
theorem dX5_opposite_35 : decode cX5_opposite 35 = .ok (.aload_n 0, 1) := by decide +kernel
theorem dX5_opposite_36 : decode cX5_opposite 36 = .ok (.iconst 0, 1) := by decide +kernel
theorem dX5_opposite_37 : decode cX5_opposite 37 = .ok (.putfield 143, 3) := by decide +kernel
theorem dX5_opposite_40 : decode cX5_opposite 40 = .ok (.aload_n 0, 1) := by decide +kernel
theorem dX5_opposite_41 : decode cX5_opposite 41 = .ok (.iload_n 1, 1) := by decide +kernel
theorem dX5_opposite_42 : decode cX5_opposite 42 = .ok (.iconst (-1), 1) := by decide +kernel
theorem dX5_opposite_43 : decode cX5_opposite 43 = .ok (.invokevirtual 146, 3) := by decide +kernel
theorem dX5_opposite_46 : decode cX5_opposite 46 = .ok (.aload_n 0, 1) := by decide +kernel
theorem dX5_opposite_47 : decode cX5_opposite 47 = .ok (.getfield 51, 3) := by decide +kernel
theorem dX5_opposite_50 : decode cX5_opposite 50 = .ok (.iload_n 3, 1) := by decide +kernel
theorem dX5_opposite_51 : decode cX5_opposite 51 = .ok (.iconst 0, 1) := by decide +kernel
theorem dX5_opposite_52 : decode cX5_opposite 52 = .ok (.iastore, 1) := by decide +kernel
theorem dX5_opposite_53 : decode cX5_opposite 53 = .ok (.iconst 0, 1) := by decide +kernel
theorem dX5_opposite_54 : decode cX5_opposite 54 = .ok (.istore 4, 2) := by decide +kernel
theorem dX5_opposite_56 : decode cX5_opposite 56 = .ok (.iload 4, 2) := by decide +kernel
theorem dX5_opposite_58 : decode cX5_opposite 58 = .ok (.aload_n 0, 1) := by decide +kernel
theorem dX5_opposite_59 : decode cX5_opposite 59 = .ok (.getfield 143, 3) := by decide +kernel
theorem dX5_opposite_62 : decode cX5_opposite 62 = .ok (.if_icmp .ge 68, 3) := by decide +kernel
theorem dX5_opposite_65 : decode cX5_opposite 65 = .ok (.aload_n 0, 1) := by decide +kernel
theorem dX5_opposite_66 : decode cX5_opposite 66 = .ok (.iload_n 2, 1) := by decide +kernel
theorem dX5_opposite_67 : decode cX5_opposite 67 = .ok (.aload_n 0, 1) := by decide +kernel
theorem dX5_opposite_68 : decode cX5_opposite 68 = .ok (.getfield 54, 3) := by decide +kernel
theorem dX5_opposite_71 : decode cX5_opposite 71 = .ok (.iload 4, 2) := by decide +kernel
theorem dX5_opposite_73 : decode cX5_opposite 73 = .ok (.iaload, 1) := by decide +kernel
theorem dX5_opposite_74 : decode cX5_opposite 74 = .ok (.invokevirtual 68, 3) := by decide +kernel
theorem dX5_opposite_77 : decode cX5_opposite 77 = .ok (.istore 5, 2) := by decide +kernel
theorem dX5_opposite_79 : decode cX5_opposite 79 = .ok (.aload_n 0, 1) := by decide +kernel
theorem dX5_opposite_80 : decode cX5_opposite 80 = .ok (.iload_n 3, 1) := by decide +kernel
theorem dX5_opposite_81 : decode cX5_opposite 81 = .ok (.iload 5, 2) := by decide +kernel
theorem dX5_opposite_83 : decode cX5_opposite 83 = .ok (.ifCond .ge 8, 3) := by decide +kernel
theorem dX5_opposite_86 : decode cX5_opposite 86 = .ok (.bipush 114, 2) := by decide +kernel
theorem dX5_opposite_88 : decode cX5_opposite 88 = .ok (.goto 5, 3) := by decide +kernel
theorem dX5_opposite_91 : decode cX5_opposite 91 = .ok (.bipush 112, 2) := by decide +kernel
theorem dX5_opposite_93 : decode cX5_opposite 93 = .ok (.aload_n 0, 1) := by decide +kernel
theorem dX5_opposite_94 : decode cX5_opposite 94 = .ok (.getfield 54, 3) := by decide +kernel
theorem dX5_opposite_97 : decode cX5_opposite 97 = .ok (.iload 4, 2) := by decide +kernel
theorem dX5_opposite_99 : decode cX5_opposite 99 = .ok (.iaload, 1) := by decide +kernel
theorem dX5_opposite_100 : decode cX5_opposite 100 = .ok (.iload 5, 2) := by decide +kernel
theorem dX5_opposite_102 : decode cX5_opposite 102 = .ok (.ifCond .ge 7, 3) := by decide +kernel
theorem dX5_opposite_105 : decode cX5_opposite 105 = .ok (.iconst 0, 1) := by decide +kernel
theorem dX5_opposite_106 : decode cX5_opposite 106 = .ok (.goto 15, 3) := by decide +kernel
theorem dX5_opposite_109 : decode cX5_opposite 109 = .ok (.aload_n 0, 1) := by decide +kernel
theorem dX5_opposite_110 : decode cX5_opposite 110 = .ok (.getfield 13, 3) := by decide +kernel
theorem dX5_opposite_113 : decode cX5_opposite 113 = .ok (.bipush 60, 2) := by decide +kernel
theorem dX5_opposite_115 : decode cX5_opposite 115 = .ok (.iload_n 2, 1) := by decide +kernel
theorem dX5_opposite_116 : decode cX5_opposite 116 = .ok (.imul, 1) := by decide +kernel
theorem dX5_opposite_117 : decode cX5_opposite 117 = .ok (.iload 5, 2) := by decide +kernel
theorem dX5_opposite_119 : decode cX5_opposite 119 = .ok (.iadd, 1) := by decide +kernel
theorem dX5_opposite_120 : decode cX5_opposite 120 = .ok (.iaload, 1) := by decide +kernel
theorem dX5_opposite_121 : decode cX5_opposite 121 = .ok (.invokevirtual 139, 3) := by decide +kernel
theorem dX5_opposite_124 : decode cX5_opposite 124 = .ok (.iinc 4 1, 3) := by decide +kernel
theorem dX5_opposite_127 : decode cX5_opposite 127 = .ok (.goto (-71), 3) := by decide +kernel
theorem dX5_opposite_130 : decode cX5_opposite 130 = .ok (.aload_n 0, 1) := by decide +kernel
theorem dX5_opposite_131 : decode cX5_opposite 131 = .ok (.getfield 51, 3) := by decide +kernel
theorem dX5_opposite_134 : decode cX5_opposite 134 = .ok (.iload_n 3, 1) := by decide +kernel
theorem dX5_opposite_135 : decode cX5_opposite 135 = .ok (.iaload, 1) := by decide +kernel
theorem dX5_opposite_136 : decode cX5_opposite 136 = .ok (.ireturn, 1) := by decide +kernel
theorem dX5_manyTogether_0 : decode cX5_manyTogether 0 = .ok (.aload_n 0, 1) := by decide +kernel
theorem dX5_manyTogether_1 : decode cX5_manyTogether 1 = .ok (.getfield 16, 3) := by decide +kernel
theorem dX5_manyTogether_4 : decode cX5_manyTogether 4 = .ok (.iload_n 2, 1) := by decide +kernel
theorem dX5_manyTogether_5 : decode cX5_manyTogether 5 = .ok (.iaload, 1) := by decide +kernel
theorem dX5_manyTogether_6 : decode cX5_manyTogether 6 = .ok (.istore_n 3, 1) := by decide +kernel
theorem dX5_manyTogether_7 : decode cX5_manyTogether 7 = .ok (.iconst 0, 1) := by decide +kernel
theorem dX5_manyTogether_8 : decode cX5_manyTogether 8 = .ok (.istore 4, 2) := by decide +kernel
theorem dX5_manyTogether_10 : decode cX5_manyTogether 10 = .ok (.iload 4, 2) := by decide +kernel
theorem dX5_manyTogether_12 : decode cX5_manyTogether 12 = .ok (.aload_n 0, 1) := by decide +kernel
theorem dX5_manyTogether_13 : decode cX5_manyTogether 13 = .ok (.getfield 16, 3) := by decide +kernel
theorem dX5_manyTogether_16 : decode cX5_manyTogether 16 = .ok (.iload_n 1, 1) := by decide +kernel
theorem dX5_manyTogether_17 : decode cX5_manyTogether 17 = .ok (.iaload, 1) := by decide +kernel
theorem dX5_manyTogether_18 : decode cX5_manyTogether 18 = .ok (.if_icmp .ge 37, 3) := by decide +kernel
theorem dX5_manyTogether_21 : decode cX5_manyTogether 21 = .ok (.iload_n 3, 1) := by decide +kernel
theorem dX5_manyTogether_22 : decode cX5_manyTogether 22 = .ok (.aload_n 0, 1) := by decide +kernel
theorem dX5_manyTogether_23 : decode cX5_manyTogether 23 = .ok (.iload_n 2, 1) := by decide +kernel
theorem dX5_manyTogether_24 : decode cX5_manyTogether 24 = .ok (.aload_n 0, 1) := by decide +kernel
theorem dX5_manyTogether_25 : decode cX5_manyTogether 25 = .ok (.getfield 7, 3) := by decide +kernel
theorem dX5_manyTogether_28 : decode cX5_manyTogether 28 = .ok (.bipush 60, 2) := by decide +kernel
theorem dX5_manyTogether_30 : decode cX5_manyTogether 30 = .ok (.iload_n 1, 1) := by decide +kernel
theorem dX5_manyTogether_31 : decode cX5_manyTogether 31 = .ok (.imul, 1) := by decide +kernel
theorem dX5_manyTogether_32 : decode cX5_manyTogether 32 = .ok (.iload 4, 2) := by decide +kernel
theorem dX5_manyTogether_34 : decode cX5_manyTogether 34 = .ok (.iadd, 1) := by decide +kernel
theorem dX5_manyTogether_35 : decode cX5_manyTogether 35 = .ok (.iaload, 1) := by decide +kernel
theorem dX5_manyTogether_36 : decode cX5_manyTogether 36 = .ok (.invokevirtual 91, 3) := by decide +kernel
theorem dX5_manyTogether_39 : decode cX5_manyTogether 39 = .ok (.ifCond .eq 7, 3) := by decide +kernel
theorem dX5_manyTogether_42 : decode cX5_manyTogether 42 = .ok (.iconst 0, 1) := by decide +kernel
theorem dX5_manyTogether_43 : decode cX5_manyTogether 43 = .ok (.goto 4, 3) := by decide +kernel
theorem dX5_manyTogether_46 : decode cX5_manyTogether 46 = .ok (.iconst 1, 1) := by decide +kernel
theorem dX5_manyTogether_47 : decode cX5_manyTogether 47 = .ok (.iadd, 1) := by decide +kernel
theorem dX5_manyTogether_48 : decode cX5_manyTogether 48 = .ok (.istore_n 3, 1) := by decide +kernel
theorem dX5_manyTogether_49 : decode cX5_manyTogether 49 = .ok (.iinc 4 1, 3) := by decide +kernel
theorem dX5_manyTogether_52 : decode cX5_manyTogether 52 = .ok (.goto (-42), 3) := by decide +kernel
theorem dX5_manyTogether_55 : decode cX5_manyTogether 55 = .ok (.iload_n 3, 1) := by decide +kernel
theorem dX5_manyTogether_56 : decode cX5_manyTogether 56 = .ok (.ireturn, 1) := by decide +kernel
theorem dX5_combine_0 : decode cX5_combine 0 = .ok (.iload_n 3, 1) := by decide +kernel
theorem dX5_combine_1 : decode cX5_combine 1 = .ok (.bipush 115, 2) := by decide +kernel
theorem dX5_combine_3 : decode cX5_combine 3 = .ok (.if_icmp .eq 15, 3) := by decide +kernel
theorem dX5_combine_6 : decode cX5_combine 6 = .ok (.iload_n 3, 1) := by decide +kernel
theorem dX5_combine_7 : decode cX5_combine 7 = .ok (.bipush 103, 2) := by decide +kernel
theorem dX5_combine_9 : decode cX5_combine 9 = .ok (.if_icmp .eq 9, 3) := by decide +kernel
theorem dX5_combine_12 : decode cX5_combine 12 = .ok (.iload_n 3, 1) := by decide +kernel
theorem dX5_combine_13 : decode cX5_combine 13 = .ok (.bipush 108, 2) := by decide +kernel
theorem dX5_combine_15 : decode cX5_combine 15 = .ok (.if_icmp .ne 7, 3) := by decide +kernel
theorem dX5_combine_18 : decode cX5_combine 18 = .ok (.iconst 1, 1) := by decide +kernel
theorem dX5_combine_19 : decode cX5_combine 19 = .ok (.goto 4, 3) := by decide +kernel
theorem dX5_combine_22 : decode cX5_combine 22 = .ok (.iconst 0, 1) := by decide +kernel
theorem dX5_combine_23 : decode cX5_combine 23 = .ok (.istore 4, 2) := by decide +kernel
theorem dX5_combine_25 : decode cX5_combine 25 = .ok (.aload_n 0, 1) := by decide +kernel
theorem dX5_combine_26 : decode cX5_combine 26 = .ok (.iload_n 1, 1) := by decide +kernel
theorem dX5_combine_27 : decode cX5_combine 27 = .ok (.invokestatic 87, 3) := by decide +kernel
theorem dX5_combine_30 : decode cX5_combine 30 = .ok (.ifCond .eq 10, 3) := by decide +kernel
theorem dX5_combine_33 : decode cX5_combine 33 = .ok (.iload_n 2, 1) := by decide +kernel
theorem dX5_combine_34 : decode cX5_combine 34 = .ok (.invokestatic 87, 3) := by decide +kernel
theorem dX5_combine_37 : decode cX5_combine 37 = .ok (.ifCond .ne 7, 3) := by decide +kernel
theorem dX5_combine_40 : decode cX5_combine 40 = .ok (.iconst 1, 1) := by decide +kernel
theorem dX5_combine_41 : decode cX5_combine 41 = .ok (.goto 33, 3) := by decide +kernel
theorem dX5_combine_44 : decode cX5_combine 44 = .ok (.iload 4, 2) := by decide +kernel
theorem dX5_combine_46 : decode cX5_combine 46 = .ok (.ifCond .eq 8, 3) := by decide +kernel
theorem dX5_combine_49 : decode cX5_combine 49 = .ok (.iload_n 1, 1) := by decide +kernel
theorem dX5_combine_50 : decode cX5_combine 50 = .ok (.iload_n 2, 1) := by decide +kernel
theorem dX5_combine_51 : decode cX5_combine 51 = .ok (.if_icmp .ne 7, 3) := by decide +kernel
theorem dX5_combine_54 : decode cX5_combine 54 = .ok (.iconst 2, 1) := by decide +kernel
theorem dX5_combine_55 : decode cX5_combine 55 = .ok (.goto 19, 3) := by decide +kernel
theorem dX5_combine_58 : decode cX5_combine 58 = .ok (.aload_n 0, 1) := by decide +kernel
theorem dX5_combine_59 : decode cX5_combine 59 = .ok (.iload_n 1, 1) := by decide +kernel
theorem dX5_combine_60 : decode cX5_combine 60 = .ok (.iload_n 2, 1) := by decide +kernel
theorem dX5_combine_61 : decode cX5_combine 61 = .ok (.invokevirtual 158, 3) := by decide +kernel
theorem dX5_combine_64 : decode cX5_combine 64 = .ok (.bipush 60, 2) := by decide +kernel
theorem dX5_combine_66 : decode cX5_combine 66 = .ok (.if_icmp .le 7, 3) := by decide +kernel
theorem dX5_combine_69 : decode cX5_combine 69 = .ok (.iconst 3, 1) := by decide +kernel
theorem dX5_combine_70 : decode cX5_combine 70 = .ok (.goto 4, 3) := by decide +kernel
theorem dX5_combine_73 : decode cX5_combine 73 = .ok (.iconst 0, 1) := by decide +kernel
theorem dX5_combine_74 : decode cX5_combine 74 = .ok (.invokevirtual 95, 3) := by decide +kernel
theorem dX5_combine_77 : decode cX5_combine 77 = .ok (.ifCond .eq 5, 3) := by decide +kernel
theorem dX5_combine_80 : decode cX5_combine 80 = .ok (.iconst 0, 1) := by decide +kernel
theorem dX5_combine_81 : decode cX5_combine 81 = .ok (.ireturn, 1) := by decide +kernel
theorem dX5_combine_82 : decode cX5_combine 82 = .ok (.iconst 0, 1) := by decide +kernel
theorem dX5_combine_83 : decode cX5_combine 83 = .ok (.istore 5, 2) := by decide +kernel
theorem dX5_combine_85 : decode cX5_combine 85 = .ok (.iload 5, 2) := by decide +kernel
theorem dX5_combine_87 : decode cX5_combine 87 = .ok (.aload_n 0, 1) := by decide +kernel
theorem dX5_combine_88 : decode cX5_combine 88 = .ok (.getfield 16, 3) := by decide +kernel
theorem dX5_combine_91 : decode cX5_combine 91 = .ok (.iload_n 1, 1) := by decide +kernel
theorem dX5_combine_92 : decode cX5_combine 92 = .ok (.iaload, 1) := by decide +kernel
theorem dX5_combine_93 : decode cX5_combine 93 = .ok (.if_icmp .ge 143, 3) := by decide +kernel
theorem dX5_combine_96 : decode cX5_combine 96 = .ok (.aload_n 0, 1) := by decide +kernel
theorem dX5_combine_97 : decode cX5_combine 97 = .ok (.getfield 7, 3) := by decide +kernel
theorem dX5_combine_100 : decode cX5_combine 100 = .ok (.bipush 60, 2) := by decide +kernel
theorem dX5_combine_102 : decode cX5_combine 102 = .ok (.iload_n 1, 1) := by decide +kernel
theorem dX5_combine_103 : decode cX5_combine 103 = .ok (.imul, 1) := by decide +kernel
theorem dX5_combine_104 : decode cX5_combine 104 = .ok (.iload 5, 2) := by decide +kernel
theorem dX5_combine_106 : decode cX5_combine 106 = .ok (.iadd, 1) := by decide +kernel
theorem dX5_combine_107 : decode cX5_combine 107 = .ok (.iaload, 1) := by decide +kernel
theorem dX5_combine_108 : decode cX5_combine 108 = .ok (.istore 6, 2) := by decide +kernel
theorem dX5_combine_110 : decode cX5_combine 110 = .ok (.aload_n 0, 1) := by decide +kernel
theorem dX5_combine_111 : decode cX5_combine 111 = .ok (.getfield 13, 3) := by decide +kernel
theorem dX5_combine_114 : decode cX5_combine 114 = .ok (.bipush 60, 2) := by decide +kernel
theorem dX5_combine_116 : decode cX5_combine 116 = .ok (.iload_n 1, 1) := by decide +kernel
theorem dX5_combine_117 : decode cX5_combine 117 = .ok (.imul, 1) := by decide +kernel
theorem dX5_combine_118 : decode cX5_combine 118 = .ok (.iload 5, 2) := by decide +kernel
theorem dX5_combine_120 : decode cX5_combine 120 = .ok (.iadd, 1) := by decide +kernel
theorem dX5_combine_121 : decode cX5_combine 121 = .ok (.iaload, 1) := by decide +kernel
theorem dX5_combine_122 : decode cX5_combine 122 = .ok (.istore 7, 2) := by decide +kernel
theorem dX5_combine_124 : decode cX5_combine 124 = .ok (.aload_n 0, 1) := by decide +kernel
theorem dX5_combine_125 : decode cX5_combine 125 = .ok (.iload_n 2, 1) := by decide +kernel
theorem dX5_combine_126 : decode cX5_combine 126 = .ok (.iload 6, 2) := by decide +kernel
theorem dX5_combine_128 : decode cX5_combine 128 = .ok (.invokevirtual 68, 3) := by decide +kernel
theorem dX5_combine_131 : decode cX5_combine 131 = .ok (.istore 8, 2) := by decide +kernel
theorem dX5_combine_133 : decode cX5_combine 133 = .ok (.iload 8, 2) := by decide +kernel
theorem dX5_combine_135 : decode cX5_combine 135 = .ok (.ifCond .ge 8, 3) := by decide +kernel
theorem dX5_combine_138 : decode cX5_combine 138 = .ok (.iload 7, 2) := by decide +kernel
theorem dX5_combine_140 : decode cX5_combine 140 = .ok (.goto 15, 3) := by decide +kernel
theorem dX5_combine_143 : decode cX5_combine 143 = .ok (.aload_n 0, 1) := by decide +kernel
theorem dX5_combine_144 : decode cX5_combine 144 = .ok (.getfield 13, 3) := by decide +kernel
theorem dX5_combine_147 : decode cX5_combine 147 = .ok (.bipush 60, 2) := by decide +kernel
theorem dX5_combine_149 : decode cX5_combine 149 = .ok (.iload_n 2, 1) := by decide +kernel
theorem dX5_combine_150 : decode cX5_combine 150 = .ok (.imul, 1) := by decide +kernel
theorem dX5_combine_151 : decode cX5_combine 151 = .ok (.iload 8, 2) := by decide +kernel
theorem dX5_combine_153 : decode cX5_combine 153 = .ok (.iadd, 1) := by decide +kernel
theorem dX5_combine_154 : decode cX5_combine 154 = .ok (.iaload, 1) := by decide +kernel
theorem dX5_combine_155 : decode cX5_combine 155 = .ok (.istore 9, 2) := by decide +kernel
theorem dX5_combine_157 : decode cX5_combine 157 = .ok (.iload 8, 2) := by decide +kernel
theorem dX5_combine_159 : decode cX5_combine 159 = .ok (.ifCond .lt 26, 3) := by decide +kernel
theorem dX5_combine_162 : decode cX5_combine 162 = .ok (.iload_n 3, 1) := by decide +kernel
theorem dX5_combine_163 : decode cX5_combine 163 = .ok (.bipush 103, 2) := by decide +kernel
theorem dX5_combine_165 : decode cX5_combine 165 = .ok (.if_icmp .ne 13, 3) := by decide +kernel
theorem dX5_combine_168 : decode cX5_combine 168 = .ok (.iload 7, 2) := by decide +kernel
theorem dX5_combine_170 : decode cX5_combine 170 = .ok (.iload 9, 2) := by decide +kernel
theorem dX5_combine_172 : decode cX5_combine 172 = .ok (.if_icmp .le 17, 3) := by decide +kernel
theorem dX5_combine_175 : decode cX5_combine 175 = .ok (.goto 10, 3) := by decide +kernel
theorem dX5_combine_178 : decode cX5_combine 178 = .ok (.iload 7, 2) := by decide +kernel
theorem dX5_combine_180 : decode cX5_combine 180 = .ok (.iload 9, 2) := by decide +kernel
theorem dX5_combine_182 : decode cX5_combine 182 = .ok (.if_icmp .ge 7, 3) := by decide +kernel
theorem dX5_combine_185 : decode cX5_combine 185 = .ok (.iconst 1, 1) := by decide +kernel
theorem dX5_combine_186 : decode cX5_combine 186 = .ok (.goto 4, 3) := by decide +kernel
theorem dX5_combine_189 : decode cX5_combine 189 = .ok (.iconst 0, 1) := by decide +kernel
theorem dX5_combine_190 : decode cX5_combine 190 = .ok (.istore 10, 2) := by decide +kernel
theorem dX5_combine_192 : decode cX5_combine 192 = .ok (.aload_n 0, 1) := by decide +kernel
theorem dX5_combine_193 : decode cX5_combine 193 = .ok (.iload_n 2, 1) := by decide +kernel
theorem dX5_combine_194 : decode cX5_combine 194 = .ok (.iload 6, 2) := by decide +kernel
theorem dX5_combine_196 : decode cX5_combine 196 = .ok (.iload 8, 2) := by decide +kernel
theorem dX5_combine_198 : decode cX5_combine 198 = .ok (.ifCond .lt 17, 3) := by decide +kernel
theorem dX5_combine_201 : decode cX5_combine 201 = .ok (.iload_n 3, 1) := by decide +kernel
theorem dX5_combine_202 : decode cX5_combine 202 = .ok (.bipush 115, 2) := by decide +kernel
theorem dX5_combine_204 : decode cX5_combine 204 = .ok (.if_icmp .ne 11, 3) := by decide +kernel
theorem dX5_combine_207 : decode cX5_combine 207 = .ok (.iload 7, 2) := by decide +kernel
theorem dX5_combine_209 : decode cX5_combine 209 = .ok (.iload 9, 2) := by decide +kernel
theorem dX5_combine_211 : decode cX5_combine 211 = .ok (.iadd, 1) := by decide +kernel
theorem dX5_combine_212 : decode cX5_combine 212 = .ok (.goto 15, 3) := by decide +kernel
theorem dX5_combine_215 : decode cX5_combine 215 = .ok (.iload 10, 2) := by decide +kernel
theorem dX5_combine_217 : decode cX5_combine 217 = .ok (.ifCond .eq 8, 3) := by decide +kernel
theorem dX5_combine_220 : decode cX5_combine 220 = .ok (.iload 7, 2) := by decide +kernel
theorem dX5_combine_222 : decode cX5_combine 222 = .ok (.goto 5, 3) := by decide +kernel
theorem dX5_combine_225 : decode cX5_combine 225 = .ok (.iload 9, 2) := by decide +kernel
theorem dX5_combine_227 : decode cX5_combine 227 = .ok (.invokevirtual 98, 3) := by decide +kernel
theorem dX5_combine_230 : decode cX5_combine 230 = .ok (.iinc 5 1, 3) := by decide +kernel
theorem dX5_combine_233 : decode cX5_combine 233 = .ok (.goto (-148), 3) := by decide +kernel
theorem dX5_combine_236 : decode cX5_combine 236 = .ok (.aload_n 0, 1) := by decide +kernel
theorem dX5_combine_237 : decode cX5_combine 237 = .ok (.getfield 16, 3) := by decide +kernel
theorem dX5_combine_240 : decode cX5_combine 240 = .ok (.iload_n 2, 1) := by decide +kernel
theorem dX5_combine_241 : decode cX5_combine 241 = .ok (.iaload, 1) := by decide +kernel
theorem dX5_combine_242 : decode cX5_combine 242 = .ok (.ireturn, 1) := by decide +kernel
theorem dX5_fullShare_0 : decode cX5_fullShare 0 = .ok (.aload_n 0, 1) := by decide +kernel
theorem dX5_fullShare_1 : decode cX5_fullShare 1 = .ok (.iload_n 1, 1) := by decide +kernel
theorem dX5_fullShare_2 : decode cX5_fullShare 2 = .ok (.invokestatic 87, 3) := by decide +kernel
theorem dX5_fullShare_5 : decode cX5_fullShare 5 = .ok (.ifCond .ne 7, 3) := by decide +kernel
theorem dX5_fullShare_8 : decode cX5_fullShare 8 = .ok (.iconst 1, 1) := by decide +kernel
theorem dX5_fullShare_9 : decode cX5_fullShare 9 = .ok (.goto 4, 3) := by decide +kernel
theorem dX5_fullShare_12 : decode cX5_fullShare 12 = .ok (.iconst 0, 1) := by decide +kernel
theorem dX5_fullShare_13 : decode cX5_fullShare 13 = .ok (.invokevirtual 95, 3) := by decide +kernel
theorem dX5_fullShare_16 : decode cX5_fullShare 16 = .ok (.ifCond .eq 7, 3) := by decide +kernel
theorem dX5_fullShare_19 : decode cX5_fullShare 19 = .ok (.fconst 0, 1) := by decide +kernel
theorem dX5_fullShare_20 : decode cX5_fullShare 20 = .ok (.goto 13, 3) := by decide +kernel
theorem dX5_fullShare_23 : decode cX5_fullShare 23 = .ok (.aload_n 0, 1) := by decide +kernel
theorem dX5_fullShare_24 : decode cX5_fullShare 24 = .ok (.getfield 16, 3) := by decide +kernel
theorem dX5_fullShare_27 : decode cX5_fullShare 27 = .ok (.iload_n 1, 1) := by decide +kernel
theorem dX5_fullShare_28 : decode cX5_fullShare 28 = .ok (.iaload, 1) := by decide +kernel
theorem dX5_fullShare_29 : decode cX5_fullShare 29 = .ok (.i2f, 1) := by decide +kernel
theorem dX5_fullShare_30 : decode cX5_fullShare 30 = .ok (.ldc 161, 2) := by decide +kernel
theorem dX5_fullShare_32 : decode cX5_fullShare 32 = .ok (.fdiv, 1) := by decide +kernel
theorem dX5_fullShare_33 : decode cX5_fullShare 33 = .ok (.freturn, 1) := by decide +kernel
theorem dX5_meanKey_0 : decode cX5_meanKey 0 = .ok (.aload_n 0, 1) := by decide +kernel
theorem dX5_meanKey_1 : decode cX5_meanKey 1 = .ok (.iload_n 1, 1) := by decide +kernel
theorem dX5_meanKey_2 : decode cX5_meanKey 2 = .ok (.invokestatic 87, 3) := by decide +kernel
theorem dX5_meanKey_5 : decode cX5_meanKey 5 = .ok (.ifCond .ne 7, 3) := by decide +kernel
theorem dX5_meanKey_8 : decode cX5_meanKey 8 = .ok (.iconst 1, 1) := by decide +kernel
theorem dX5_meanKey_9 : decode cX5_meanKey 9 = .ok (.goto 17, 3) := by decide +kernel
theorem dX5_meanKey_12 : decode cX5_meanKey 12 = .ok (.aload_n 0, 1) := by decide +kernel
theorem dX5_meanKey_13 : decode cX5_meanKey 13 = .ok (.getfield 16, 3) := by decide +kernel
theorem dX5_meanKey_16 : decode cX5_meanKey 16 = .ok (.iload_n 1, 1) := by decide +kernel
theorem dX5_meanKey_17 : decode cX5_meanKey 17 = .ok (.iaload, 1) := by decide +kernel
theorem dX5_meanKey_18 : decode cX5_meanKey 18 = .ok (.ifCond .ne 7, 3) := by decide +kernel
theorem dX5_meanKey_21 : decode cX5_meanKey 21 = .ok (.iconst 2, 1) := by decide +kernel
theorem dX5_meanKey_22 : decode cX5_meanKey 22 = .ok (.goto 4, 3) := by decide +kernel
theorem dX5_meanKey_25 : decode cX5_meanKey 25 = .ok (.iconst 0, 1) := by decide +kernel
theorem dX5_meanKey_26 : decode cX5_meanKey 26 = .ok (.invokevirtual 95, 3) := by decide +kernel
theorem dX5_meanKey_29 : decode cX5_meanKey 29 = .ok (.ifCond .eq 5, 3) := by decide +kernel
theorem dX5_meanKey_32 : decode cX5_meanKey 32 = .ok (.dconst 0, 1) := by decide +kernel
theorem dX5_meanKey_33 : decode cX5_meanKey 33 = .ok (.dreturn, 1) := by decide +kernel
theorem dX5_meanKey_34 : decode cX5_meanKey 34 = .ok (.lconst 0, 1) := by decide +kernel
theorem dX5_meanKey_35 : decode cX5_meanKey 35 = .ok (.lstore_n 2, 1) := by decide +kernel
theorem dX5_meanKey_36 : decode cX5_meanKey 36 = .ok (.iconst 0, 1) := by decide +kernel
theorem dX5_meanKey_37 : decode cX5_meanKey 37 = .ok (.istore 4, 2) := by decide +kernel
theorem dX5_meanKey_39 : decode cX5_meanKey 39 = .ok (.iload 4, 2) := by decide +kernel
theorem dX5_meanKey_41 : decode cX5_meanKey 41 = .ok (.aload_n 0, 1) := by decide +kernel
theorem dX5_meanKey_42 : decode cX5_meanKey 42 = .ok (.getfield 16, 3) := by decide +kernel
theorem dX5_meanKey_45 : decode cX5_meanKey 45 = .ok (.iload_n 1, 1) := by decide +kernel
theorem dX5_meanKey_46 : decode cX5_meanKey 46 = .ok (.iaload, 1) := by decide +kernel
theorem dX5_meanKey_47 : decode cX5_meanKey 47 = .ok (.if_icmp .ge 25, 3) := by decide +kernel
theorem dX5_meanKey_50 : decode cX5_meanKey 50 = .ok (.lload_n 2, 1) := by decide +kernel
theorem dX5_meanKey_51 : decode cX5_meanKey 51 = .ok (.aload_n 0, 1) := by decide +kernel
theorem dX5_meanKey_52 : decode cX5_meanKey 52 = .ok (.getfield 7, 3) := by decide +kernel
theorem dX5_meanKey_55 : decode cX5_meanKey 55 = .ok (.bipush 60, 2) := by decide +kernel
theorem dX5_meanKey_57 : decode cX5_meanKey 57 = .ok (.iload_n 1, 1) := by decide +kernel
theorem dX5_meanKey_58 : decode cX5_meanKey 58 = .ok (.imul, 1) := by decide +kernel
theorem dX5_meanKey_59 : decode cX5_meanKey 59 = .ok (.iload 4, 2) := by decide +kernel
theorem dX5_meanKey_61 : decode cX5_meanKey 61 = .ok (.iadd, 1) := by decide +kernel
theorem dX5_meanKey_62 : decode cX5_meanKey 62 = .ok (.iaload, 1) := by decide +kernel
theorem dX5_meanKey_63 : decode cX5_meanKey 63 = .ok (.i2l, 1) := by decide +kernel
theorem dX5_meanKey_64 : decode cX5_meanKey 64 = .ok (.ladd, 1) := by decide +kernel
theorem dX5_meanKey_65 : decode cX5_meanKey 65 = .ok (.lstore_n 2, 1) := by decide +kernel
theorem dX5_meanKey_66 : decode cX5_meanKey 66 = .ok (.iinc 4 1, 3) := by decide +kernel
theorem dX5_meanKey_69 : decode cX5_meanKey 69 = .ok (.goto (-30), 3) := by decide +kernel
theorem dX5_meanKey_72 : decode cX5_meanKey 72 = .ok (.lload_n 2, 1) := by decide +kernel
theorem dX5_meanKey_73 : decode cX5_meanKey 73 = .ok (.l2d, 1) := by decide +kernel
theorem dX5_meanKey_74 : decode cX5_meanKey 74 = .ok (.aload_n 0, 1) := by decide +kernel
theorem dX5_meanKey_75 : decode cX5_meanKey 75 = .ok (.getfield 16, 3) := by decide +kernel
theorem dX5_meanKey_78 : decode cX5_meanKey 78 = .ok (.iload_n 1, 1) := by decide +kernel
theorem dX5_meanKey_79 : decode cX5_meanKey 79 = .ok (.iaload, 1) := by decide +kernel
theorem dX5_meanKey_80 : decode cX5_meanKey 80 = .ok (.i2d, 1) := by decide +kernel
theorem dX5_meanKey_81 : decode cX5_meanKey 81 = .ok (.ddiv, 1) := by decide +kernel
theorem dX5_meanKey_82 : decode cX5_meanKey 82 = .ok (.dreturn, 1) := by decide +kernel
theorem dX5_checksum_0 : decode cX5_checksum 0 = .ok (.aload_n 0, 1) := by decide +kernel
theorem dX5_checksum_1 : decode cX5_checksum 1 = .ok (.iconst 0, 1) := by decide +kernel
theorem dX5_checksum_2 : decode cX5_checksum 2 = .ok (.putfield 60, 3) := by decide +kernel
theorem dX5_checksum_5 : decode cX5_checksum 5 = .ok (.ldc2_w 162, 3) := by decide +kernel
theorem dX5_checksum_8 : decode cX5_checksum 8 = .ok (.lstore_n 1, 1) := by decide +kernel
theorem dX5_checksum_9 : decode cX5_checksum 9 = .ok (.iconst 0, 1) := by decide +kernel
theorem dX5_checksum_10 : decode cX5_checksum 10 = .ok (.istore_n 3, 1) := by decide +kernel
theorem dX5_checksum_11 : decode cX5_checksum 11 = .ok (.iload_n 3, 1) := by decide +kernel
theorem dX5_checksum_12 : decode cX5_checksum 12 = .ok (.iconst 3, 1) := by decide +kernel
theorem dX5_checksum_13 : decode cX5_checksum 13 = .ok (.if_icmp .ge 83, 3) := by decide +kernel
theorem dX5_checksum_16 : decode cX5_checksum 16 = .ok (.ldc2_w 164, 3) := by decide +kernel
theorem dX5_checksum_19 : decode cX5_checksum 19 = .ok (.lload_n 1, 1) := by decide +kernel
theorem dX5_checksum_20 : decode cX5_checksum 20 = .ok (.lmul, 1) := by decide +kernel
theorem dX5_checksum_21 : decode cX5_checksum 21 = .ok (.aload_n 0, 1) := by decide +kernel
theorem dX5_checksum_22 : decode cX5_checksum 22 = .ok (.getfield 16, 3) := by decide +kernel
theorem dX5_checksum_25 : decode cX5_checksum 25 = .ok (.iload_n 3, 1) := by decide +kernel
theorem dX5_checksum_26 : decode cX5_checksum 26 = .ok (.iaload, 1) := by decide +kernel
theorem dX5_checksum_27 : decode cX5_checksum 27 = .ok (.i2l, 1) := by decide +kernel
theorem dX5_checksum_28 : decode cX5_checksum 28 = .ok (.ladd, 1) := by decide +kernel
theorem dX5_checksum_29 : decode cX5_checksum 29 = .ok (.lstore_n 1, 1) := by decide +kernel
theorem dX5_checksum_30 : decode cX5_checksum 30 = .ok (.iconst 0, 1) := by decide +kernel
theorem dX5_checksum_31 : decode cX5_checksum 31 = .ok (.istore 4, 2) := by decide +kernel
theorem dX5_checksum_33 : decode cX5_checksum 33 = .ok (.iload 4, 2) := by decide +kernel
theorem dX5_checksum_35 : decode cX5_checksum 35 = .ok (.aload_n 0, 1) := by decide +kernel
theorem dX5_checksum_36 : decode cX5_checksum 36 = .ok (.getfield 16, 3) := by decide +kernel
theorem dX5_checksum_39 : decode cX5_checksum 39 = .ok (.iload_n 3, 1) := by decide +kernel
theorem dX5_checksum_40 : decode cX5_checksum 40 = .ok (.iaload, 1) := by decide +kernel
theorem dX5_checksum_41 : decode cX5_checksum 41 = .ok (.if_icmp .ge 49, 3) := by decide +kernel
theorem dX5_checksum_44 : decode cX5_checksum 44 = .ok (.ldc2_w 164, 3) := by decide +kernel
theorem dX5_checksum_47 : decode cX5_checksum 47 = .ok (.lload_n 1, 1) := by decide +kernel
theorem dX5_checksum_48 : decode cX5_checksum 48 = .ok (.lmul, 1) := by decide +kernel
theorem dX5_checksum_49 : decode cX5_checksum 49 = .ok (.aload_n 0, 1) := by decide +kernel
theorem dX5_checksum_50 : decode cX5_checksum 50 = .ok (.getfield 7, 3) := by decide +kernel
theorem dX5_checksum_53 : decode cX5_checksum 53 = .ok (.bipush 60, 2) := by decide +kernel
theorem dX5_checksum_55 : decode cX5_checksum 55 = .ok (.iload_n 3, 1) := by decide +kernel
theorem dX5_checksum_56 : decode cX5_checksum 56 = .ok (.imul, 1) := by decide +kernel
theorem dX5_checksum_57 : decode cX5_checksum 57 = .ok (.iload 4, 2) := by decide +kernel
theorem dX5_checksum_59 : decode cX5_checksum 59 = .ok (.iadd, 1) := by decide +kernel
theorem dX5_checksum_60 : decode cX5_checksum 60 = .ok (.iaload, 1) := by decide +kernel
theorem dX5_checksum_61 : decode cX5_checksum 61 = .ok (.i2l, 1) := by decide +kernel
theorem dX5_checksum_62 : decode cX5_checksum 62 = .ok (.ladd, 1) := by decide +kernel
theorem dX5_checksum_63 : decode cX5_checksum 63 = .ok (.lstore_n 1, 1) := by decide +kernel
theorem dX5_checksum_64 : decode cX5_checksum 64 = .ok (.ldc2_w 164, 3) := by decide +kernel
theorem dX5_checksum_67 : decode cX5_checksum 67 = .ok (.lload_n 1, 1) := by decide +kernel
theorem dX5_checksum_68 : decode cX5_checksum 68 = .ok (.lmul, 1) := by decide +kernel
theorem dX5_checksum_69 : decode cX5_checksum 69 = .ok (.aload_n 0, 1) := by decide +kernel
theorem dX5_checksum_70 : decode cX5_checksum 70 = .ok (.getfield 13, 3) := by decide +kernel
theorem dX5_checksum_73 : decode cX5_checksum 73 = .ok (.bipush 60, 2) := by decide +kernel
theorem dX5_checksum_75 : decode cX5_checksum 75 = .ok (.iload_n 3, 1) := by decide +kernel
theorem dX5_checksum_76 : decode cX5_checksum 76 = .ok (.imul, 1) := by decide +kernel
theorem dX5_checksum_77 : decode cX5_checksum 77 = .ok (.iload 4, 2) := by decide +kernel
theorem dX5_checksum_79 : decode cX5_checksum 79 = .ok (.iadd, 1) := by decide +kernel
theorem dX5_checksum_80 : decode cX5_checksum 80 = .ok (.iaload, 1) := by decide +kernel
theorem dX5_checksum_81 : decode cX5_checksum 81 = .ok (.i2l, 1) := by decide +kernel
theorem dX5_checksum_82 : decode cX5_checksum 82 = .ok (.ladd, 1) := by decide +kernel
theorem dX5_checksum_83 : decode cX5_checksum 83 = .ok (.lstore_n 1, 1) := by decide +kernel
theorem dX5_checksum_84 : decode cX5_checksum 84 = .ok (.iinc 4 1, 3) := by decide +kernel
theorem dX5_checksum_87 : decode cX5_checksum 87 = .ok (.goto (-54), 3) := by decide +kernel
theorem dX5_checksum_90 : decode cX5_checksum 90 = .ok (.iinc 3 1, 3) := by decide +kernel
theorem dX5_checksum_93 : decode cX5_checksum 93 = .ok (.goto (-82), 3) := by decide +kernel
theorem dX5_checksum_96 : decode cX5_checksum 96 = .ok (.iconst 0, 1) := by decide +kernel
theorem dX5_checksum_97 : decode cX5_checksum 97 = .ok (.istore_n 3, 1) := by decide +kernel
theorem dX5_checksum_98 : decode cX5_checksum 98 = .ok (.iload_n 3, 1) := by decide +kernel
theorem dX5_checksum_99 : decode cX5_checksum 99 = .ok (.iconst 4, 1) := by decide +kernel
theorem dX5_checksum_100 : decode cX5_checksum 100 = .ok (.if_icmp .ge 121, 3) := by decide +kernel
theorem dX5_checksum_103 : decode cX5_checksum 103 = .ok (.ldc2_w 164, 3) := by decide +kernel
theorem dX5_checksum_106 : decode cX5_checksum 106 = .ok (.lload_n 1, 1) := by decide +kernel
theorem dX5_checksum_107 : decode cX5_checksum 107 = .ok (.lmul, 1) := by decide +kernel
theorem dX5_checksum_108 : decode cX5_checksum 108 = .ok (.aload_n 0, 1) := by decide +kernel
theorem dX5_checksum_109 : decode cX5_checksum 109 = .ok (.getfield 19, 3) := by decide +kernel
theorem dX5_checksum_112 : decode cX5_checksum 112 = .ok (.iload_n 3, 1) := by decide +kernel
theorem dX5_checksum_113 : decode cX5_checksum 113 = .ok (.baload, 1) := by decide +kernel
theorem dX5_checksum_114 : decode cX5_checksum 114 = .ok (.ifCond .eq 11, 3) := by decide +kernel
theorem dX5_checksum_117 : decode cX5_checksum 117 = .ok (.aload_n 0, 1) := by decide +kernel
theorem dX5_checksum_118 : decode cX5_checksum 118 = .ok (.iload_n 3, 1) := by decide +kernel
theorem dX5_checksum_119 : decode cX5_checksum 119 = .ok (.invokevirtual 129, 3) := by decide +kernel
theorem dX5_checksum_122 : decode cX5_checksum 122 = .ok (.goto 4, 3) := by decide +kernel
theorem dX5_checksum_125 : decode cX5_checksum 125 = .ok (.iconst (-1), 1) := by decide +kernel
theorem dX5_checksum_126 : decode cX5_checksum 126 = .ok (.i2l, 1) := by decide +kernel
theorem dX5_checksum_127 : decode cX5_checksum 127 = .ok (.ladd, 1) := by decide +kernel
theorem dX5_checksum_128 : decode cX5_checksum 128 = .ok (.lstore_n 1, 1) := by decide +kernel
theorem dX5_checksum_129 : decode cX5_checksum 129 = .ok (.iconst 0, 1) := by decide +kernel
theorem dX5_checksum_130 : decode cX5_checksum 130 = .ok (.istore 4, 2) := by decide +kernel
theorem dX5_checksum_132 : decode cX5_checksum 132 = .ok (.iload 4, 2) := by decide +kernel
theorem dX5_checksum_134 : decode cX5_checksum 134 = .ok (.bipush 60, 2) := by decide +kernel
theorem dX5_checksum_136 : decode cX5_checksum 136 = .ok (.if_icmp .ge 79, 3) := by decide +kernel
theorem dX5_checksum_139 : decode cX5_checksum 139 = .ok (.aload_n 0, 1) := by decide +kernel
theorem dX5_checksum_140 : decode cX5_checksum 140 = .ok (.getfield 19, 3) := by decide +kernel
theorem dX5_checksum_143 : decode cX5_checksum 143 = .ok (.iload_n 3, 1) := by decide +kernel
theorem dX5_checksum_144 : decode cX5_checksum 144 = .ok (.baload, 1) := by decide +kernel
theorem dX5_checksum_145 : decode cX5_checksum 145 = .ok (.ifCond .eq 27, 3) := by decide +kernel
theorem dX5_checksum_148 : decode cX5_checksum 148 = .ok (.iload 4, 2) := by decide +kernel
theorem dX5_checksum_150 : decode cX5_checksum 150 = .ok (.aload_n 0, 1) := by decide +kernel
theorem dX5_checksum_151 : decode cX5_checksum 151 = .ok (.iload_n 3, 1) := by decide +kernel
theorem dX5_checksum_152 : decode cX5_checksum 152 = .ok (.invokevirtual 116, 3) := by decide +kernel
theorem dX5_checksum_155 : decode cX5_checksum 155 = .ok (.if_icmp .lt 17, 3) := by decide +kernel
theorem dX5_checksum_158 : decode cX5_checksum 158 = .ok (.iload 4, 2) := by decide +kernel
theorem dX5_checksum_160 : decode cX5_checksum 160 = .ok (.aload_n 0, 1) := by decide +kernel
theorem dX5_checksum_161 : decode cX5_checksum 161 = .ok (.iload_n 3, 1) := by decide +kernel
theorem dX5_checksum_162 : decode cX5_checksum 162 = .ok (.invokevirtual 123, 3) := by decide +kernel
theorem dX5_checksum_165 : decode cX5_checksum 165 = .ok (.if_icmp .ge 7, 3) := by decide +kernel
theorem dX5_checksum_168 : decode cX5_checksum 168 = .ok (.iconst 1, 1) := by decide +kernel
theorem dX5_checksum_169 : decode cX5_checksum 169 = .ok (.goto 4, 3) := by decide +kernel
theorem dX5_checksum_172 : decode cX5_checksum 172 = .ok (.iconst 0, 1) := by decide +kernel
theorem dX5_checksum_173 : decode cX5_checksum 173 = .ok (.istore 5, 2) := by decide +kernel
theorem dX5_checksum_175 : decode cX5_checksum 175 = .ok (.iload 5, 2) := by decide +kernel
theorem dX5_checksum_177 : decode cX5_checksum 177 = .ok (.ifCond .eq 30, 3) := by decide +kernel
theorem dX5_checksum_180 : decode cX5_checksum 180 = .ok (.ldc2_w 164, 3) := by decide +kernel
theorem dX5_checksum_183 : decode cX5_checksum 183 = .ok (.lload_n 1, 1) := by decide +kernel
theorem dX5_checksum_184 : decode cX5_checksum 184 = .ok (.lmul, 1) := by decide +kernel
theorem dX5_checksum_185 : decode cX5_checksum 185 = .ok (.aload_n 0, 1) := by decide +kernel
theorem dX5_checksum_186 : decode cX5_checksum 186 = .ok (.getfield 7, 3) := by decide +kernel
theorem dX5_checksum_189 : decode cX5_checksum 189 = .ok (.bipush 60, 2) := by decide +kernel
theorem dX5_checksum_191 : decode cX5_checksum 191 = .ok (.aload_n 0, 1) := by decide +kernel
theorem dX5_checksum_192 : decode cX5_checksum 192 = .ok (.getfield 23, 3) := by decide +kernel
theorem dX5_checksum_195 : decode cX5_checksum 195 = .ok (.iload_n 3, 1) := by decide +kernel
theorem dX5_checksum_196 : decode cX5_checksum 196 = .ok (.iaload, 1) := by decide +kernel
theorem dX5_checksum_197 : decode cX5_checksum 197 = .ok (.imul, 1) := by decide +kernel
theorem dX5_checksum_198 : decode cX5_checksum 198 = .ok (.iload 4, 2) := by decide +kernel
theorem dX5_checksum_200 : decode cX5_checksum 200 = .ok (.iadd, 1) := by decide +kernel
theorem dX5_checksum_201 : decode cX5_checksum 201 = .ok (.iaload, 1) := by decide +kernel
theorem dX5_checksum_202 : decode cX5_checksum 202 = .ok (.i2l, 1) := by decide +kernel
theorem dX5_checksum_203 : decode cX5_checksum 203 = .ok (.ladd, 1) := by decide +kernel
theorem dX5_checksum_204 : decode cX5_checksum 204 = .ok (.goto 4, 3) := by decide +kernel
theorem dX5_checksum_207 : decode cX5_checksum 207 = .ok (.lload_n 1, 1) := by decide +kernel
theorem dX5_checksum_208 : decode cX5_checksum 208 = .ok (.lstore_n 1, 1) := by decide +kernel
theorem dX5_checksum_209 : decode cX5_checksum 209 = .ok (.iinc 4 1, 3) := by decide +kernel
theorem dX5_checksum_212 : decode cX5_checksum 212 = .ok (.goto (-80), 3) := by decide +kernel
theorem dX5_checksum_215 : decode cX5_checksum 215 = .ok (.iinc 3 1, 3) := by decide +kernel
theorem dX5_checksum_218 : decode cX5_checksum 218 = .ok (.goto (-120), 3) := by decide +kernel
theorem dX5_checksum_221 : decode cX5_checksum 221 = .ok (.iconst 0, 1) := by decide +kernel
theorem dX5_checksum_222 : decode cX5_checksum 222 = .ok (.istore_n 3, 1) := by decide +kernel
theorem dX5_checksum_223 : decode cX5_checksum 223 = .ok (.iload_n 3, 1) := by decide +kernel
theorem dX5_checksum_224 : decode cX5_checksum 224 = .ok (.iconst 3, 1) := by decide +kernel
theorem dX5_checksum_225 : decode cX5_checksum 225 = .ok (.if_icmp .ge 103, 3) := by decide +kernel
theorem dX5_checksum_228 : decode cX5_checksum 228 = .ok (.ldc2_w 164, 3) := by decide +kernel
theorem dX5_checksum_231 : decode cX5_checksum 231 = .ok (.lload_n 1, 1) := by decide +kernel
theorem dX5_checksum_232 : decode cX5_checksum 232 = .ok (.lmul, 1) := by decide +kernel
theorem dX5_checksum_233 : decode cX5_checksum 233 = .ok (.aload_n 0, 1) := by decide +kernel
theorem dX5_checksum_234 : decode cX5_checksum 234 = .ok (.getfield 51, 3) := by decide +kernel
theorem dX5_checksum_237 : decode cX5_checksum 237 = .ok (.iload_n 3, 1) := by decide +kernel
theorem dX5_checksum_238 : decode cX5_checksum 238 = .ok (.iaload, 1) := by decide +kernel
theorem dX5_checksum_239 : decode cX5_checksum 239 = .ok (.i2l, 1) := by decide +kernel
theorem dX5_checksum_240 : decode cX5_checksum 240 = .ok (.ladd, 1) := by decide +kernel
theorem dX5_checksum_241 : decode cX5_checksum 241 = .ok (.lstore_n 1, 1) := by decide +kernel
theorem dX5_checksum_242 : decode cX5_checksum 242 = .ok (.iconst 0, 1) := by decide +kernel
theorem dX5_checksum_243 : decode cX5_checksum 243 = .ok (.istore 4, 2) := by decide +kernel
theorem dX5_checksum_245 : decode cX5_checksum 245 = .ok (.iload 4, 2) := by decide +kernel
theorem dX5_checksum_247 : decode cX5_checksum 247 = .ok (.aload_n 0, 1) := by decide +kernel
theorem dX5_checksum_248 : decode cX5_checksum 248 = .ok (.getfield 51, 3) := by decide +kernel
theorem dX5_checksum_251 : decode cX5_checksum 251 = .ok (.iload_n 3, 1) := by decide +kernel
theorem dX5_checksum_252 : decode cX5_checksum 252 = .ok (.iaload, 1) := by decide +kernel
theorem dX5_checksum_253 : decode cX5_checksum 253 = .ok (.if_icmp .ge 69, 3) := by decide +kernel
theorem dX5_checksum_256 : decode cX5_checksum 256 = .ok (.ldc2_w 164, 3) := by decide +kernel
theorem dX5_checksum_259 : decode cX5_checksum 259 = .ok (.lload_n 1, 1) := by decide +kernel
theorem dX5_checksum_260 : decode cX5_checksum 260 = .ok (.lmul, 1) := by decide +kernel
theorem dX5_checksum_261 : decode cX5_checksum 261 = .ok (.aload_n 0, 1) := by decide +kernel
theorem dX5_checksum_262 : decode cX5_checksum 262 = .ok (.getfield 41, 3) := by decide +kernel
theorem dX5_checksum_265 : decode cX5_checksum 265 = .ok (.bipush 30, 2) := by decide +kernel
theorem dX5_checksum_267 : decode cX5_checksum 267 = .ok (.iload_n 3, 1) := by decide +kernel
theorem dX5_checksum_268 : decode cX5_checksum 268 = .ok (.imul, 1) := by decide +kernel
theorem dX5_checksum_269 : decode cX5_checksum 269 = .ok (.iload 4, 2) := by decide +kernel
theorem dX5_checksum_271 : decode cX5_checksum 271 = .ok (.iadd, 1) := by decide +kernel
theorem dX5_checksum_272 : decode cX5_checksum 272 = .ok (.caload, 1) := by decide +kernel
theorem dX5_checksum_273 : decode cX5_checksum 273 = .ok (.i2l, 1) := by decide +kernel
theorem dX5_checksum_274 : decode cX5_checksum 274 = .ok (.ladd, 1) := by decide +kernel
theorem dX5_checksum_275 : decode cX5_checksum 275 = .ok (.lstore_n 1, 1) := by decide +kernel
theorem dX5_checksum_276 : decode cX5_checksum 276 = .ok (.ldc2_w 164, 3) := by decide +kernel
theorem dX5_checksum_279 : decode cX5_checksum 279 = .ok (.lload_n 1, 1) := by decide +kernel
theorem dX5_checksum_280 : decode cX5_checksum 280 = .ok (.lmul, 1) := by decide +kernel
theorem dX5_checksum_281 : decode cX5_checksum 281 = .ok (.aload_n 0, 1) := by decide +kernel
theorem dX5_checksum_282 : decode cX5_checksum 282 = .ok (.getfield 45, 3) := by decide +kernel
theorem dX5_checksum_285 : decode cX5_checksum 285 = .ok (.bipush 30, 2) := by decide +kernel
theorem dX5_checksum_287 : decode cX5_checksum 287 = .ok (.iload_n 3, 1) := by decide +kernel
theorem dX5_checksum_288 : decode cX5_checksum 288 = .ok (.imul, 1) := by decide +kernel
theorem dX5_checksum_289 : decode cX5_checksum 289 = .ok (.iload 4, 2) := by decide +kernel
theorem dX5_checksum_291 : decode cX5_checksum 291 = .ok (.iadd, 1) := by decide +kernel
theorem dX5_checksum_292 : decode cX5_checksum 292 = .ok (.iaload, 1) := by decide +kernel
theorem dX5_checksum_293 : decode cX5_checksum 293 = .ok (.i2l, 1) := by decide +kernel
theorem dX5_checksum_294 : decode cX5_checksum 294 = .ok (.ladd, 1) := by decide +kernel
theorem dX5_checksum_295 : decode cX5_checksum 295 = .ok (.lstore_n 1, 1) := by decide +kernel
theorem dX5_checksum_296 : decode cX5_checksum 296 = .ok (.ldc2_w 164, 3) := by decide +kernel
theorem dX5_checksum_299 : decode cX5_checksum 299 = .ok (.lload_n 1, 1) := by decide +kernel
theorem dX5_checksum_300 : decode cX5_checksum 300 = .ok (.lmul, 1) := by decide +kernel
theorem dX5_checksum_301 : decode cX5_checksum 301 = .ok (.aload_n 0, 1) := by decide +kernel
theorem dX5_checksum_302 : decode cX5_checksum 302 = .ok (.getfield 48, 3) := by decide +kernel
theorem dX5_checksum_305 : decode cX5_checksum 305 = .ok (.bipush 30, 2) := by decide +kernel
theorem dX5_checksum_307 : decode cX5_checksum 307 = .ok (.iload_n 3, 1) := by decide +kernel
theorem dX5_checksum_308 : decode cX5_checksum 308 = .ok (.imul, 1) := by decide +kernel
theorem dX5_checksum_309 : decode cX5_checksum 309 = .ok (.iload 4, 2) := by decide +kernel
theorem dX5_checksum_311 : decode cX5_checksum 311 = .ok (.iadd, 1) := by decide +kernel
theorem dX5_checksum_312 : decode cX5_checksum 312 = .ok (.iaload, 1) := by decide +kernel
theorem dX5_checksum_313 : decode cX5_checksum 313 = .ok (.i2l, 1) := by decide +kernel
theorem dX5_checksum_314 : decode cX5_checksum 314 = .ok (.ladd, 1) := by decide +kernel
theorem dX5_checksum_315 : decode cX5_checksum 315 = .ok (.lstore_n 1, 1) := by decide +kernel
theorem dX5_checksum_316 : decode cX5_checksum 316 = .ok (.iinc 4 1, 3) := by decide +kernel
theorem dX5_checksum_319 : decode cX5_checksum 319 = .ok (.goto (-74), 3) := by decide +kernel
theorem dX5_checksum_322 : decode cX5_checksum 322 = .ok (.iinc 3 1, 3) := by decide +kernel
theorem dX5_checksum_325 : decode cX5_checksum 325 = .ok (.goto (-102), 3) := by decide +kernel
theorem dX5_checksum_328 : decode cX5_checksum 328 = .ok (.lload_n 1, 1) := by decide +kernel
theorem dX5_checksum_329 : decode cX5_checksum 329 = .ok (.lreturn, 1) := by decide +kernel
theorem dX5_isSound_0 : decode cX5_isSound 0 = .ok (.aload_n 0, 1) := by decide +kernel
theorem dX5_isSound_1 : decode cX5_isSound 1 = .ok (.iconst 0, 1) := by decide +kernel
theorem dX5_isSound_2 : decode cX5_isSound 2 = .ok (.putfield 60, 3) := by decide +kernel
theorem dX5_isSound_5 : decode cX5_isSound 5 = .ok (.iconst 1, 1) := by decide +kernel
theorem dX5_isSound_6 : decode cX5_isSound 6 = .ok (.ireturn, 1) := by decide +kernel
