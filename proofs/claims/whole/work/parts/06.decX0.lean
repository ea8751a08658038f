theorem dX0_init_0 : decode cX0_init 0 = .ok (.aload_n 0, 1) := by decide +kernel
theorem dX0_init_1 : decode cX0_init 1 = .ok (.invokespecial 3, 3) := by decide +kernel
theorem dX0_init_4 : decode cX0_init 4 = .ok (.aload_n 0, 1) := by decide +kernel
theorem dX0_init_5 : decode cX0_init 5 = .ok (.new 9, 3) := by decide +kernel
theorem dX0_init_8 : decode cX0_init 8 = .ok (.dup, 1) := by decide +kernel
theorem dX0_init_9 : decode cX0_init 9 = .ok (.invokespecial 11, 3) := by decide +kernel
theorem dX0_init_12 : decode cX0_init 12 = .ok (.putfield 12, 3) := by decide +kernel
theorem dX0_init_15 : decode cX0_init 15 = .ok (.aload_n 0, 1) := by decide +kernel
theorem dX0_init_16 : decode cX0_init 16 = .ok (.new 9, 3) := by decide +kernel
theorem dX0_init_19 : decode cX0_init 19 = .ok (.dup, 1) := by decide +kernel
theorem dX0_init_20 : decode cX0_init 20 = .ok (.invokespecial 11, 3) := by decide +kernel
theorem dX0_init_23 : decode cX0_init 23 = .ok (.putfield 18, 3) := by decide +kernel
theorem dX0_init_26 : decode cX0_init 26 = .ok (.aload_n 0, 1) := by decide +kernel
theorem dX0_init_27 : decode cX0_init 27 = .ok (.new 9, 3) := by decide +kernel
theorem dX0_init_30 : decode cX0_init 30 = .ok (.dup, 1) := by decide +kernel
theorem dX0_init_31 : decode cX0_init 31 = .ok (.invokespecial 11, 3) := by decide +kernel
theorem dX0_init_34 : decode cX0_init 34 = .ok (.putfield 21, 3) := by decide +kernel
theorem dX0_init_37 : decode cX0_init 37 = .ok (.aload_n 0, 1) := by decide +kernel
theorem dX0_init_38 : decode cX0_init 38 = .ok (.new 24, 3) := by decide +kernel
theorem dX0_init_41 : decode cX0_init 41 = .ok (.dup, 1) := by decide +kernel
theorem dX0_init_42 : decode cX0_init 42 = .ok (.invokespecial 26, 3) := by decide +kernel
theorem dX0_init_45 : decode cX0_init 45 = .ok (.putfield 27, 3) := by decide +kernel
theorem dX0_init_48 : decode cX0_init 48 = .ok (.return_, 1) := by decide +kernel
theorem dX0_countKeys_0 : decode cX0_countKeys 0 = .ok (.aload_n 0, 1) := by decide +kernel
theorem dX0_countKeys_1 : decode cX0_countKeys 1 = .ok (.getfield 12, 3) := by decide +kernel
theorem dX0_countKeys_4 : decode cX0_countKeys 4 = .ok (.iconst 0, 1) := by decide +kernel
theorem dX0_countKeys_5 : decode cX0_countKeys 5 = .ok (.putfield 31, 3) := by decide +kernel
theorem dX0_countKeys_8 : decode cX0_countKeys 8 = .ok (.aload_n 1, 1) := by decide +kernel
theorem dX0_countKeys_9 : decode cX0_countKeys 9 = .ok (.aload_n 0, 1) := by decide +kernel
theorem dX0_countKeys_10 : decode cX0_countKeys 10 = .ok (.getfield 12, 3) := by decide +kernel
theorem dX0_countKeys_13 : decode cX0_countKeys 13 = .ok (.invokevirtual 35, 3) := by decide +kernel
theorem dX0_countKeys_16 : decode cX0_countKeys 16 = .ok (.aload_n 2, 1) := by decide +kernel
theorem dX0_countKeys_17 : decode cX0_countKeys 17 = .ok (.aload_n 0, 1) := by decide +kernel
theorem dX0_countKeys_18 : decode cX0_countKeys 18 = .ok (.getfield 12, 3) := by decide +kernel
theorem dX0_countKeys_21 : decode cX0_countKeys 21 = .ok (.invokevirtual 35, 3) := by decide +kernel
theorem dX0_countKeys_24 : decode cX0_countKeys 24 = .ok (.aload_n 0, 1) := by decide +kernel
theorem dX0_countKeys_25 : decode cX0_countKeys 25 = .ok (.getfield 12, 3) := by decide +kernel
theorem dX0_countKeys_28 : decode cX0_countKeys 28 = .ok (.getfield 31, 3) := by decide +kernel
theorem dX0_countKeys_31 : decode cX0_countKeys 31 = .ok (.ireturn, 1) := by decide +kernel
theorem dX0_countCommonKeys_0 : decode cX0_countCommonKeys 0 = .ok (.aload_n 0, 1) := by decide +kernel
theorem dX0_countCommonKeys_1 : decode cX0_countCommonKeys 1 = .ok (.aload_n 1, 1) := by decide +kernel
theorem dX0_countCommonKeys_2 : decode cX0_countCommonKeys 2 = .ok (.aload_n 1, 1) := by decide +kernel
theorem dX0_countCommonKeys_3 : decode cX0_countCommonKeys 3 = .ok (.invokevirtual 39, 3) := by decide +kernel
theorem dX0_countCommonKeys_6 : decode cX0_countCommonKeys 6 = .ok (.aload_n 0, 1) := by decide +kernel
theorem dX0_countCommonKeys_7 : decode cX0_countCommonKeys 7 = .ok (.aload_n 2, 1) := by decide +kernel
theorem dX0_countCommonKeys_8 : decode cX0_countCommonKeys 8 = .ok (.aload_n 2, 1) := by decide +kernel
theorem dX0_countCommonKeys_9 : decode cX0_countCommonKeys 9 = .ok (.invokevirtual 39, 3) := by decide +kernel
theorem dX0_countCommonKeys_12 : decode cX0_countCommonKeys 12 = .ok (.iadd, 1) := by decide +kernel
theorem dX0_countCommonKeys_13 : decode cX0_countCommonKeys 13 = .ok (.aload_n 0, 1) := by decide +kernel
theorem dX0_countCommonKeys_14 : decode cX0_countCommonKeys 14 = .ok (.aload_n 1, 1) := by decide +kernel
theorem dX0_countCommonKeys_15 : decode cX0_countCommonKeys 15 = .ok (.aload_n 2, 1) := by decide +kernel
theorem dX0_countCommonKeys_16 : decode cX0_countCommonKeys 16 = .ok (.invokevirtual 39, 3) := by decide +kernel
theorem dX0_countCommonKeys_19 : decode cX0_countCommonKeys 19 = .ok (.isub, 1) := by decide +kernel
theorem dX0_countCommonKeys_20 : decode cX0_countCommonKeys 20 = .ok (.ireturn, 1) := by decide +kernel
theorem dX0_hasRoom_0 : decode cX0_hasRoom 0 = .ok (.aload_n 0, 1) := by decide +kernel
theorem dX0_hasRoom_1 : decode cX0_hasRoom 1 = .ok (.aload_n 2, 1) := by decide +kernel
theorem dX0_hasRoom_2 : decode cX0_hasRoom 2 = .ok (.aload_n 3, 1) := by decide +kernel
theorem dX0_hasRoom_3 : decode cX0_hasRoom 3 = .ok (.invokevirtual 39, 3) := by decide +kernel
theorem dX0_hasRoom_6 : decode cX0_hasRoom 6 = .ok (.pop, 1) := by decide +kernel
theorem dX0_hasRoom_7 : decode cX0_hasRoom 7 = .ok (.aload_n 1, 1) := by decide +kernel
theorem dX0_hasRoom_8 : decode cX0_hasRoom 8 = .ok (.getfield 31, 3) := by decide +kernel
theorem dX0_hasRoom_11 : decode cX0_hasRoom 11 = .ok (.aload_n 0, 1) := by decide +kernel
theorem dX0_hasRoom_12 : decode cX0_hasRoom 12 = .ok (.getfield 12, 3) := by decide +kernel
theorem dX0_hasRoom_15 : decode cX0_hasRoom 15 = .ok (.aload_n 1, 1) := by decide +kernel
theorem dX0_hasRoom_16 : decode cX0_hasRoom 16 = .ok (.invokevirtual 43, 3) := by decide +kernel
theorem dX0_hasRoom_19 : decode cX0_hasRoom 19 = .ok (.iadd, 1) := by decide +kernel
theorem dX0_hasRoom_20 : decode cX0_hasRoom 20 = .ok (.bipush 60, 2) := by decide +kernel
theorem dX0_hasRoom_22 : decode cX0_hasRoom 22 = .ok (.if_icmp .gt 7, 3) := by decide +kernel
theorem dX0_hasRoom_25 : decode cX0_hasRoom 25 = .ok (.iconst 1, 1) := by decide +kernel
theorem dX0_hasRoom_26 : decode cX0_hasRoom 26 = .ok (.goto 4, 3) := by decide +kernel
theorem dX0_hasRoom_29 : decode cX0_hasRoom 29 = .ok (.iconst 0, 1) := by decide +kernel
theorem dX0_hasRoom_30 : decode cX0_hasRoom 30 = .ok (.ireturn, 1) := by decide +kernel
theorem dX0_turnRound_0 : decode cX0_turnRound 0 = .ok (.aload_n 0, 1) := by decide +kernel
theorem dX0_turnRound_1 : decode cX0_turnRound 1 = .ok (.getfield 12, 3) := by decide +kernel
theorem dX0_turnRound_4 : decode cX0_turnRound 4 = .ok (.iconst 0, 1) := by decide +kernel
theorem dX0_turnRound_5 : decode cX0_turnRound 5 = .ok (.putfield 31, 3) := by decide +kernel
theorem dX0_turnRound_8 : decode cX0_turnRound 8 = .ok (.aload_n 1, 1) := by decide +kernel
theorem dX0_turnRound_9 : decode cX0_turnRound 9 = .ok (.aload_n 0, 1) := by decide +kernel
theorem dX0_turnRound_10 : decode cX0_turnRound 10 = .ok (.getfield 12, 3) := by decide +kernel
theorem dX0_turnRound_13 : decode cX0_turnRound 13 = .ok (.invokevirtual 35, 3) := by decide +kernel
theorem dX0_turnRound_16 : decode cX0_turnRound 16 = .ok (.aload_n 3, 1) := by decide +kernel
theorem dX0_turnRound_17 : decode cX0_turnRound 17 = .ok (.iconst 0, 1) := by decide +kernel
theorem dX0_turnRound_18 : decode cX0_turnRound 18 = .ok (.putfield 47, 3) := by decide +kernel
theorem dX0_turnRound_21 : decode cX0_turnRound 21 = .ok (.iconst 0, 1) := by decide +kernel
theorem dX0_turnRound_22 : decode cX0_turnRound 22 = .ok (.istore 4, 2) := by decide +kernel
theorem dX0_turnRound_24 : decode cX0_turnRound 24 = .ok (.iload 4, 2) := by decide +kernel
theorem dX0_turnRound_26 : decode cX0_turnRound 26 = .ok (.aload_n 0, 1) := by decide +kernel
theorem dX0_turnRound_27 : decode cX0_turnRound 27 = .ok (.getfield 12, 3) := by decide +kernel
theorem dX0_turnRound_30 : decode cX0_turnRound 30 = .ok (.getfield 31, 3) := by decide +kernel
theorem dX0_turnRound_33 : decode cX0_turnRound 33 = .ok (.if_icmp .ge 61, 3) := by decide +kernel
theorem dX0_turnRound_36 : decode cX0_turnRound 36 = .ok (.aload_n 0, 1) := by decide +kernel
theorem dX0_turnRound_37 : decode cX0_turnRound 37 = .ok (.getfield 12, 3) := by decide +kernel
theorem dX0_turnRound_40 : decode cX0_turnRound 40 = .ok (.getfield 48, 3) := by decide +kernel
theorem dX0_turnRound_43 : decode cX0_turnRound 43 = .ok (.iload 4, 2) := by decide +kernel
theorem dX0_turnRound_45 : decode cX0_turnRound 45 = .ok (.iaload, 1) := by decide +kernel
theorem dX0_turnRound_46 : decode cX0_turnRound 46 = .ok (.istore 5, 2) := by decide +kernel
theorem dX0_turnRound_48 : decode cX0_turnRound 48 = .ok (.aload_n 2, 1) := by decide +kernel
theorem dX0_turnRound_49 : decode cX0_turnRound 49 = .ok (.iload 5, 2) := by decide +kernel
theorem dX0_turnRound_51 : decode cX0_turnRound 51 = .ok (.invokevirtual 52, 3) := by decide +kernel
theorem dX0_turnRound_54 : decode cX0_turnRound 54 = .ok (.istore 6, 2) := by decide +kernel
theorem dX0_turnRound_56 : decode cX0_turnRound 56 = .ok (.iload 6, 2) := by decide +kernel
theorem dX0_turnRound_58 : decode cX0_turnRound 58 = .ok (.ifCond .ge 15, 3) := by decide +kernel
theorem dX0_turnRound_61 : decode cX0_turnRound 61 = .ok (.aload_n 3, 1) := by decide +kernel
theorem dX0_turnRound_62 : decode cX0_turnRound 62 = .ok (.bipush 114, 2) := by decide +kernel
theorem dX0_turnRound_64 : decode cX0_turnRound 64 = .ok (.iload 5, 2) := by decide +kernel
theorem dX0_turnRound_66 : decode cX0_turnRound 66 = .ok (.iconst 0, 1) := by decide +kernel
theorem dX0_turnRound_67 : decode cX0_turnRound 67 = .ok (.invokevirtual 56, 3) := by decide +kernel
theorem dX0_turnRound_70 : decode cX0_turnRound 70 = .ok (.goto 18, 3) := by decide +kernel
theorem dX0_turnRound_73 : decode cX0_turnRound 73 = .ok (.aload_n 3, 1) := by decide +kernel
theorem dX0_turnRound_74 : decode cX0_turnRound 74 = .ok (.bipush 112, 2) := by decide +kernel
theorem dX0_turnRound_76 : decode cX0_turnRound 76 = .ok (.iload 5, 2) := by decide +kernel
theorem dX0_turnRound_78 : decode cX0_turnRound 78 = .ok (.aload_n 2, 1) := by decide +kernel
theorem dX0_turnRound_79 : decode cX0_turnRound 79 = .ok (.getfield 60, 3) := by decide +kernel
theorem dX0_turnRound_82 : decode cX0_turnRound 82 = .ok (.iload 6, 2) := by decide +kernel
theorem dX0_turnRound_84 : decode cX0_turnRound 84 = .ok (.iaload, 1) := by decide +kernel
theorem dX0_turnRound_85 : decode cX0_turnRound 85 = .ok (.invokevirtual 56, 3) := by decide +kernel
theorem dX0_turnRound_88 : decode cX0_turnRound 88 = .ok (.iinc 4 1, 3) := by decide +kernel
theorem dX0_turnRound_91 : decode cX0_turnRound 91 = .ok (.goto (-67), 3) := by decide +kernel
theorem dX0_turnRound_94 : decode cX0_turnRound 94 = .ok (.return_, 1) := by decide +kernel
theorem dX0_areNearKeysSound_0 : decode cX0_areNearKeysSound 0 = .ok (.iconst 0, 1) := by decide +kernel
theorem dX0_areNearKeysSound_1 : decode cX0_areNearKeysSound 1 = .ok (.istore_n 2, 1) := by decide +kernel
theorem dX0_areNearKeysSound_2 : decode cX0_areNearKeysSound 2 = .ok (.iload_n 2, 1) := by decide +kernel
theorem dX0_areNearKeysSound_3 : decode cX0_areNearKeysSound 3 = .ok (.aload_n 1, 1) := by decide +kernel
theorem dX0_areNearKeysSound_4 : decode cX0_areNearKeysSound 4 = .ok (.getfield 31, 3) := by decide +kernel
theorem dX0_areNearKeysSound_7 : decode cX0_areNearKeysSound 7 = .ok (.if_icmp .ge 75, 3) := by decide +kernel
theorem dX0_areNearKeysSound_10 : decode cX0_areNearKeysSound 10 = .ok (.aload_n 1, 1) := by decide +kernel
theorem dX0_areNearKeysSound_11 : decode cX0_areNearKeysSound 11 = .ok (.getfield 48, 3) := by decide +kernel
theorem dX0_areNearKeysSound_14 : decode cX0_areNearKeysSound 14 = .ok (.iload_n 2, 1) := by decide +kernel
theorem dX0_areNearKeysSound_15 : decode cX0_areNearKeysSound 15 = .ok (.iaload, 1) := by decide +kernel
theorem dX0_areNearKeysSound_16 : decode cX0_areNearKeysSound 16 = .ok (.istore_n 3, 1) := by decide +kernel
theorem dX0_areNearKeysSound_17 : decode cX0_areNearKeysSound 17 = .ok (.iload_n 2, 1) := by decide +kernel
theorem dX0_areNearKeysSound_18 : decode cX0_areNearKeysSound 18 = .ok (.ifCond .le 17, 3) := by decide +kernel
theorem dX0_areNearKeysSound_21 : decode cX0_areNearKeysSound 21 = .ok (.aload_n 1, 1) := by decide +kernel
theorem dX0_areNearKeysSound_22 : decode cX0_areNearKeysSound 22 = .ok (.getfield 48, 3) := by decide +kernel
theorem dX0_areNearKeysSound_25 : decode cX0_areNearKeysSound 25 = .ok (.iload_n 2, 1) := by decide +kernel
theorem dX0_areNearKeysSound_26 : decode cX0_areNearKeysSound 26 = .ok (.iconst 1, 1) := by decide +kernel
theorem dX0_areNearKeysSound_27 : decode cX0_areNearKeysSound 27 = .ok (.isub, 1) := by decide +kernel
theorem dX0_areNearKeysSound_28 : decode cX0_areNearKeysSound 28 = .ok (.iaload, 1) := by decide +kernel
theorem dX0_areNearKeysSound_29 : decode cX0_areNearKeysSound 29 = .ok (.iload_n 3, 1) := by decide +kernel
theorem dX0_areNearKeysSound_30 : decode cX0_areNearKeysSound 30 = .ok (.if_icmp .lt 5, 3) := by decide +kernel
theorem dX0_areNearKeysSound_33 : decode cX0_areNearKeysSound 33 = .ok (.iconst 0, 1) := by decide +kernel
theorem dX0_areNearKeysSound_34 : decode cX0_areNearKeysSound 34 = .ok (.ireturn, 1) := by decide +kernel
theorem dX0_areNearKeysSound_35 : decode cX0_areNearKeysSound 35 = .ok (.iconst (-1), 1) := by decide +kernel
theorem dX0_areNearKeysSound_36 : decode cX0_areNearKeysSound 36 = .ok (.istore 4, 2) := by decide +kernel
theorem dX0_areNearKeysSound_38 : decode cX0_areNearKeysSound 38 = .ok (.iload 4, 2) := by decide +kernel
theorem dX0_areNearKeysSound_40 : decode cX0_areNearKeysSound 40 = .ok (.iconst 1, 1) := by decide +kernel
theorem dX0_areNearKeysSound_41 : decode cX0_areNearKeysSound 41 = .ok (.if_icmp .gt 35, 3) := by decide +kernel
theorem dX0_areNearKeysSound_44 : decode cX0_areNearKeysSound 44 = .ok (.aload_n 1, 1) := by decide +kernel
theorem dX0_areNearKeysSound_45 : decode cX0_areNearKeysSound 45 = .ok (.iload_n 3, 1) := by decide +kernel
theorem dX0_areNearKeysSound_46 : decode cX0_areNearKeysSound 46 = .ok (.iload 4, 2) := by decide +kernel
theorem dX0_areNearKeysSound_48 : decode cX0_areNearKeysSound 48 = .ok (.iadd, 1) := by decide +kernel
theorem dX0_areNearKeysSound_49 : decode cX0_areNearKeysSound 49 = .ok (.iconst 1, 1) := by decide +kernel
theorem dX0_areNearKeysSound_50 : decode cX0_areNearKeysSound 50 = .ok (.invokestatic 63, 3) := by decide +kernel
theorem dX0_areNearKeysSound_53 : decode cX0_areNearKeysSound 53 = .ok (.ifCond .eq 15, 3) := by decide +kernel
theorem dX0_areNearKeysSound_56 : decode cX0_areNearKeysSound 56 = .ok (.aload_n 1, 1) := by decide +kernel
theorem dX0_areNearKeysSound_57 : decode cX0_areNearKeysSound 57 = .ok (.iload_n 3, 1) := by decide +kernel
theorem dX0_areNearKeysSound_58 : decode cX0_areNearKeysSound 58 = .ok (.iload 4, 2) := by decide +kernel
theorem dX0_areNearKeysSound_60 : decode cX0_areNearKeysSound 60 = .ok (.iadd, 1) := by decide +kernel
theorem dX0_areNearKeysSound_61 : decode cX0_areNearKeysSound 61 = .ok (.iconst 0, 1) := by decide +kernel
theorem dX0_areNearKeysSound_62 : decode cX0_areNearKeysSound 62 = .ok (.invokestatic 63, 3) := by decide +kernel
theorem dX0_areNearKeysSound_65 : decode cX0_areNearKeysSound 65 = .ok (.ifCond .ne 5, 3) := by decide +kernel
theorem dX0_areNearKeysSound_68 : decode cX0_areNearKeysSound 68 = .ok (.iconst 0, 1) := by decide +kernel
theorem dX0_areNearKeysSound_69 : decode cX0_areNearKeysSound 69 = .ok (.ireturn, 1) := by decide +kernel
theorem dX0_areNearKeysSound_70 : decode cX0_areNearKeysSound 70 = .ok (.iinc 4 1, 3) := by decide +kernel
theorem dX0_areNearKeysSound_73 : decode cX0_areNearKeysSound 73 = .ok (.goto (-35), 3) := by decide +kernel
theorem dX0_areNearKeysSound_76 : decode cX0_areNearKeysSound 76 = .ok (.iinc 2 1, 3) := by decide +kernel
theorem dX0_areNearKeysSound_79 : decode cX0_areNearKeysSound 79 = .ok (.goto (-77), 3) := by decide +kernel
theorem dX0_areNearKeysSound_82 : decode cX0_areNearKeysSound 82 = .ok (.iconst 1, 1) := by decide +kernel
theorem dX0_areNearKeysSound_83 : decode cX0_areNearKeysSound 83 = .ok (.ireturn, 1) := by decide +kernel
theorem dX0_isSplitSound_0 : decode cX0_isSplitSound 0 = .ok (.aload_n 0, 1) := by decide +kernel
theorem dX0_isSplitSound_1 : decode cX0_isSplitSound 1 = .ok (.iload_n 1, 1) := by decide +kernel
theorem dX0_isSplitSound_2 : decode cX0_isSplitSound 2 = .ok (.iload_n 2, 1) := by decide +kernel
theorem dX0_isSplitSound_3 : decode cX0_isSplitSound 3 = .ok (.ifCond .eq 8, 3) := by decide +kernel
theorem dX0_isSplitSound_6 : decode cX0_isSplitSound 6 = .ok (.bipush 102, 2) := by decide +kernel
theorem dX0_isSplitSound_8 : decode cX0_isSplitSound 8 = .ok (.goto 5, 3) := by decide +kernel
theorem dX0_isSplitSound_11 : decode cX0_isSplitSound 11 = .ok (.bipush 108, 2) := by decide +kernel
theorem dX0_isSplitSound_13 : decode cX0_isSplitSound 13 = .ok (.iconst 0, 1) := by decide +kernel
theorem dX0_isSplitSound_14 : decode cX0_isSplitSound 14 = .ok (.aload_n 0, 1) := by decide +kernel
theorem dX0_isSplitSound_15 : decode cX0_isSplitSound 15 = .ok (.getfield 31, 3) := by decide +kernel
theorem dX0_isSplitSound_18 : decode cX0_isSplitSound 18 = .ok (.invokevirtual 67, 3) := by decide +kernel
theorem dX0_isSplitSound_21 : decode cX0_isSplitSound 21 = .ok (.istore_n 3, 1) := by decide +kernel
theorem dX0_isSplitSound_22 : decode cX0_isSplitSound 22 = .ok (.aload_n 0, 1) := by decide +kernel
theorem dX0_isSplitSound_23 : decode cX0_isSplitSound 23 = .ok (.iload_n 1, 1) := by decide +kernel
theorem dX0_isSplitSound_24 : decode cX0_isSplitSound 24 = .ok (.iload_n 2, 1) := by decide +kernel
theorem dX0_isSplitSound_25 : decode cX0_isSplitSound 25 = .ok (.ifCond .eq 8, 3) := by decide +kernel
theorem dX0_isSplitSound_28 : decode cX0_isSplitSound 28 = .ok (.bipush 104, 2) := by decide +kernel
theorem dX0_isSplitSound_30 : decode cX0_isSplitSound 30 = .ok (.goto 5, 3) := by decide +kernel
theorem dX0_isSplitSound_33 : decode cX0_isSplitSound 33 = .ok (.bipush 99, 2) := by decide +kernel
theorem dX0_isSplitSound_35 : decode cX0_isSplitSound 35 = .ok (.iconst 0, 1) := by decide +kernel
theorem dX0_isSplitSound_36 : decode cX0_isSplitSound 36 = .ok (.aload_n 0, 1) := by decide +kernel
theorem dX0_isSplitSound_37 : decode cX0_isSplitSound 37 = .ok (.getfield 31, 3) := by decide +kernel
theorem dX0_isSplitSound_40 : decode cX0_isSplitSound 40 = .ok (.invokevirtual 67, 3) := by decide +kernel
theorem dX0_isSplitSound_43 : decode cX0_isSplitSound 43 = .ok (.istore 4, 2) := by decide +kernel
theorem dX0_isSplitSound_45 : decode cX0_isSplitSound 45 = .ok (.iload_n 3, 1) := by decide +kernel
theorem dX0_isSplitSound_46 : decode cX0_isSplitSound 46 = .ok (.iconst 1, 1) := by decide +kernel
theorem dX0_isSplitSound_47 : decode cX0_isSplitSound 47 = .ok (.iadd, 1) := by decide +kernel
theorem dX0_isSplitSound_48 : decode cX0_isSplitSound 48 = .ok (.istore 5, 2) := by decide +kernel
theorem dX0_isSplitSound_50 : decode cX0_isSplitSound 50 = .ok (.iload 4, 2) := by decide +kernel
theorem dX0_isSplitSound_52 : decode cX0_isSplitSound 52 = .ok (.iload 5, 2) := by decide +kernel
theorem dX0_isSplitSound_54 : decode cX0_isSplitSound 54 = .ok (.aload_n 0, 1) := by decide +kernel
theorem dX0_isSplitSound_55 : decode cX0_isSplitSound 55 = .ok (.getfield 31, 3) := by decide +kernel
theorem dX0_isSplitSound_58 : decode cX0_isSplitSound 58 = .ok (.if_icmp .ge 8, 3) := by decide +kernel
theorem dX0_isSplitSound_61 : decode cX0_isSplitSound 61 = .ok (.iload 5, 2) := by decide +kernel
theorem dX0_isSplitSound_63 : decode cX0_isSplitSound 63 = .ok (.goto 4, 3) := by decide +kernel
theorem dX0_isSplitSound_66 : decode cX0_isSplitSound 66 = .ok (.iconst (-1), 1) := by decide +kernel
theorem dX0_isSplitSound_67 : decode cX0_isSplitSound 67 = .ok (.if_icmp .eq 5, 3) := by decide +kernel
theorem dX0_isSplitSound_70 : decode cX0_isSplitSound 70 = .ok (.iconst 0, 1) := by decide +kernel
theorem dX0_isSplitSound_71 : decode cX0_isSplitSound 71 = .ok (.ireturn, 1) := by decide +kernel
theorem dX0_isSplitSound_72 : decode cX0_isSplitSound 72 = .ok (.iload_n 3, 1) := by decide +kernel
theorem dX0_isSplitSound_73 : decode cX0_isSplitSound 73 = .ok (.ifCond .lt 17, 3) := by decide +kernel
theorem dX0_isSplitSound_76 : decode cX0_isSplitSound 76 = .ok (.aload_n 0, 1) := by decide +kernel
theorem dX0_isSplitSound_77 : decode cX0_isSplitSound 77 = .ok (.getfield 48, 3) := by decide +kernel
theorem dX0_isSplitSound_80 : decode cX0_isSplitSound 80 = .ok (.iload_n 3, 1) := by decide +kernel
theorem dX0_isSplitSound_81 : decode cX0_isSplitSound 81 = .ok (.iaload, 1) := by decide +kernel
theorem dX0_isSplitSound_82 : decode cX0_isSplitSound 82 = .ok (.iload_n 1, 1) := by decide +kernel
theorem dX0_isSplitSound_83 : decode cX0_isSplitSound 83 = .ok (.iload_n 2, 1) := by decide +kernel
theorem dX0_isSplitSound_84 : decode cX0_isSplitSound 84 = .ok (.invokestatic 71, 3) := by decide +kernel
theorem dX0_isSplitSound_87 : decode cX0_isSplitSound 87 = .ok (.ifCond .eq 27, 3) := by decide +kernel
theorem dX0_isSplitSound_90 : decode cX0_isSplitSound 90 = .ok (.iload 4, 2) := by decide +kernel
theorem dX0_isSplitSound_92 : decode cX0_isSplitSound 92 = .ok (.ifCond .lt 18, 3) := by decide +kernel
theorem dX0_isSplitSound_95 : decode cX0_isSplitSound 95 = .ok (.aload_n 0, 1) := by decide +kernel
theorem dX0_isSplitSound_96 : decode cX0_isSplitSound 96 = .ok (.getfield 48, 3) := by decide +kernel
theorem dX0_isSplitSound_99 : decode cX0_isSplitSound 99 = .ok (.iload 4, 2) := by decide +kernel
theorem dX0_isSplitSound_101 : decode cX0_isSplitSound 101 = .ok (.iaload, 1) := by decide +kernel
theorem dX0_isSplitSound_102 : decode cX0_isSplitSound 102 = .ok (.iload_n 1, 1) := by decide +kernel
theorem dX0_isSplitSound_103 : decode cX0_isSplitSound 103 = .ok (.iload_n 2, 1) := by decide +kernel
theorem dX0_isSplitSound_104 : decode cX0_isSplitSound 104 = .ok (.invokestatic 71, 3) := by decide +kernel
theorem dX0_isSplitSound_107 : decode cX0_isSplitSound 107 = .ok (.ifCond .ne 7, 3) := by decide +kernel
theorem dX0_isSplitSound_110 : decode cX0_isSplitSound 110 = .ok (.iconst 1, 1) := by decide +kernel
theorem dX0_isSplitSound_111 : decode cX0_isSplitSound 111 = .ok (.goto 4, 3) := by decide +kernel
theorem dX0_isSplitSound_114 : decode cX0_isSplitSound 114 = .ok (.iconst 0, 1) := by decide +kernel
theorem dX0_isSplitSound_115 : decode cX0_isSplitSound 115 = .ok (.ireturn, 1) := by decide +kernel
theorem dX0_isBelow_0 : decode cX0_isBelow 0 = .ok (.iload_n 2, 1) := by decide +kernel
theorem dX0_isBelow_1 : decode cX0_isBelow 1 = .ok (.ifCond .eq 16, 3) := by decide +kernel
theorem dX0_isBelow_4 : decode cX0_isBelow 4 = .ok (.iload_n 0, 1) := by decide +kernel
theorem dX0_isBelow_5 : decode cX0_isBelow 5 = .ok (.iload_n 1, 1) := by decide +kernel
theorem dX0_isBelow_6 : decode cX0_isBelow 6 = .ok (.if_icmp .gt 7, 3) := by decide +kernel
theorem dX0_isBelow_9 : decode cX0_isBelow 9 = .ok (.iconst 1, 1) := by decide +kernel
theorem dX0_isBelow_10 : decode cX0_isBelow 10 = .ok (.goto 17, 3) := by decide +kernel
theorem dX0_isBelow_13 : decode cX0_isBelow 13 = .ok (.iconst 0, 1) := by decide +kernel
theorem dX0_isBelow_14 : decode cX0_isBelow 14 = .ok (.goto 13, 3) := by decide +kernel
theorem dX0_isBelow_17 : decode cX0_isBelow 17 = .ok (.iload_n 0, 1) := by decide +kernel
theorem dX0_isBelow_18 : decode cX0_isBelow 18 = .ok (.iload_n 1, 1) := by decide +kernel
theorem dX0_isBelow_19 : decode cX0_isBelow 19 = .ok (.if_icmp .ge 7, 3) := by decide +kernel
theorem dX0_isBelow_22 : decode cX0_isBelow 22 = .ok (.iconst 1, 1) := by decide +kernel
theorem dX0_isBelow_23 : decode cX0_isBelow 23 = .ok (.goto 4, 3) := by decide +kernel
theorem dX0_isBelow_26 : decode cX0_isBelow 26 = .ok (.iconst 0, 1) := by decide +kernel
theorem dX0_isBelow_27 : decode cX0_isBelow 27 = .ok (.ireturn, 1) := by decide +kernel
theorem dX0_arePollsSound_0 : decode cX0_arePollsSound 0 = .ok (.aload_n 0, 1) := by decide +kernel
theorem dX0_arePollsSound_1 : decode cX0_arePollsSound 1 = .ok (.aload_n 1, 1) := by decide +kernel
theorem dX0_arePollsSound_2 : decode cX0_arePollsSound 2 = .ok (.iconst 0, 1) := by decide +kernel
theorem dX0_arePollsSound_3 : decode cX0_arePollsSound 3 = .ok (.invokevirtual 75, 3) := by decide +kernel
theorem dX0_arePollsSound_6 : decode cX0_arePollsSound 6 = .ok (.ifCond .eq 16, 3) := by decide +kernel
theorem dX0_arePollsSound_9 : decode cX0_arePollsSound 9 = .ok (.aload_n 0, 1) := by decide +kernel
theorem dX0_arePollsSound_10 : decode cX0_arePollsSound 10 = .ok (.aload_n 1, 1) := by decide +kernel
theorem dX0_arePollsSound_11 : decode cX0_arePollsSound 11 = .ok (.iconst 1, 1) := by decide +kernel
theorem dX0_arePollsSound_12 : decode cX0_arePollsSound 12 = .ok (.invokevirtual 75, 3) := by decide +kernel
theorem dX0_arePollsSound_15 : decode cX0_arePollsSound 15 = .ok (.ifCond .eq 7, 3) := by decide +kernel
theorem dX0_arePollsSound_18 : decode cX0_arePollsSound 18 = .ok (.iconst 1, 1) := by decide +kernel
theorem dX0_arePollsSound_19 : decode cX0_arePollsSound 19 = .ok (.goto 4, 3) := by decide +kernel
theorem dX0_arePollsSound_22 : decode cX0_arePollsSound 22 = .ok (.iconst 0, 1) := by decide +kernel
theorem dX0_arePollsSound_23 : decode cX0_arePollsSound 23 = .ok (.ireturn, 1) := by decide +kernel
theorem dX0_arePollsSoundFrom_0 : decode cX0_arePollsSoundFrom 0 = .ok (.aload_n 0, 1) := by decide +kernel
theorem dX0_arePollsSoundFrom_1 : decode cX0_arePollsSoundFrom 1 = .ok (.getfield 18, 3) := by decide +kernel
theorem dX0_arePollsSoundFrom_4 : decode cX0_arePollsSoundFrom 4 = .ok (.aload_n 1, 1) := by decide +kernel
theorem dX0_arePollsSoundFrom_5 : decode cX0_arePollsSoundFrom 5 = .ok (.invokevirtual 79, 3) := by decide +kernel
theorem dX0_arePollsSoundFrom_8 : decode cX0_arePollsSoundFrom 8 = .ok (.iconst 0, 1) := by decide +kernel
theorem dX0_arePollsSoundFrom_9 : decode cX0_arePollsSoundFrom 9 = .ok (.istore_n 3, 1) := by decide +kernel
theorem dX0_arePollsSoundFrom_10 : decode cX0_arePollsSoundFrom 10 = .ok (.iload_n 3, 1) := by decide +kernel
theorem dX0_arePollsSoundFrom_11 : decode cX0_arePollsSoundFrom 11 = .ok (.aload_n 1, 1) := by decide +kernel
theorem dX0_arePollsSoundFrom_12 : decode cX0_arePollsSoundFrom 12 = .ok (.getfield 31, 3) := by decide +kernel
theorem dX0_arePollsSoundFrom_15 : decode cX0_arePollsSoundFrom 15 = .ok (.if_icmp .ge 84, 3) := by decide +kernel
theorem dX0_arePollsSoundFrom_18 : decode cX0_arePollsSoundFrom 18 = .ok (.aload_n 0, 1) := by decide +kernel
theorem dX0_arePollsSoundFrom_19 : decode cX0_arePollsSoundFrom 19 = .ok (.getfield 18, 3) := by decide +kernel
theorem dX0_arePollsSoundFrom_22 : decode cX0_arePollsSoundFrom 22 = .ok (.getfield 31, 3) := by decide +kernel
theorem dX0_arePollsSoundFrom_25 : decode cX0_arePollsSoundFrom 25 = .ok (.aload_n 1, 1) := by decide +kernel
theorem dX0_arePollsSoundFrom_26 : decode cX0_arePollsSoundFrom 26 = .ok (.getfield 31, 3) := by decide +kernel
theorem dX0_arePollsSoundFrom_29 : decode cX0_arePollsSoundFrom 29 = .ok (.iload_n 3, 1) := by decide +kernel
theorem dX0_arePollsSoundFrom_30 : decode cX0_arePollsSoundFrom 30 = .ok (.isub, 1) := by decide +kernel
theorem dX0_arePollsSoundFrom_31 : decode cX0_arePollsSoundFrom 31 = .ok (.if_icmp .eq 5, 3) := by decide +kernel
theorem dX0_arePollsSoundFrom_34 : decode cX0_arePollsSoundFrom 34 = .ok (.iconst 0, 1) := by decide +kernel
theorem dX0_arePollsSoundFrom_35 : decode cX0_arePollsSoundFrom 35 = .ok (.ireturn, 1) := by decide +kernel
theorem dX0_arePollsSoundFrom_36 : decode cX0_arePollsSoundFrom 36 = .ok (.iload_n 2, 1) := by decide +kernel
theorem dX0_arePollsSoundFrom_37 : decode cX0_arePollsSoundFrom 37 = .ok (.ifCond .eq 15, 3) := by decide +kernel
theorem dX0_arePollsSoundFrom_40 : decode cX0_arePollsSoundFrom 40 = .ok (.aload_n 0, 1) := by decide +kernel
theorem dX0_arePollsSoundFrom_41 : decode cX0_arePollsSoundFrom 41 = .ok (.getfield 18, 3) := by decide +kernel
theorem dX0_arePollsSoundFrom_44 : decode cX0_arePollsSoundFrom 44 = .ok (.getfield 31, 3) := by decide +kernel
theorem dX0_arePollsSoundFrom_47 : decode cX0_arePollsSoundFrom 47 = .ok (.iconst 1, 1) := by decide +kernel
theorem dX0_arePollsSoundFrom_48 : decode cX0_arePollsSoundFrom 48 = .ok (.isub, 1) := by decide +kernel
theorem dX0_arePollsSoundFrom_49 : decode cX0_arePollsSoundFrom 49 = .ok (.goto 4, 3) := by decide +kernel
theorem dX0_arePollsSoundFrom_52 : decode cX0_arePollsSoundFrom 52 = .ok (.iconst 0, 1) := by decide +kernel
theorem dX0_arePollsSoundFrom_53 : decode cX0_arePollsSoundFrom 53 = .ok (.istore 4, 2) := by decide +kernel
theorem dX0_arePollsSoundFrom_55 : decode cX0_arePollsSoundFrom 55 = .ok (.aload_n 0, 1) := by decide +kernel
theorem dX0_arePollsSoundFrom_56 : decode cX0_arePollsSoundFrom 56 = .ok (.getfield 18, 3) := by decide +kernel
theorem dX0_arePollsSoundFrom_59 : decode cX0_arePollsSoundFrom 59 = .ok (.iload 4, 2) := by decide +kernel
theorem dX0_arePollsSoundFrom_61 : decode cX0_arePollsSoundFrom 61 = .ok (.aload_n 1, 1) := by decide +kernel
theorem dX0_arePollsSoundFrom_62 : decode cX0_arePollsSoundFrom 62 = .ok (.iload_n 2, 1) := by decide +kernel
theorem dX0_arePollsSoundFrom_63 : decode cX0_arePollsSoundFrom 63 = .ok (.ifCond .eq 8, 3) := by decide +kernel
theorem dX0_arePollsSoundFrom_66 : decode cX0_arePollsSoundFrom 66 = .ok (.iload 4, 2) := by decide +kernel
theorem dX0_arePollsSoundFrom_68 : decode cX0_arePollsSoundFrom 68 = .ok (.goto 4, 3) := by decide +kernel
theorem dX0_arePollsSoundFrom_71 : decode cX0_arePollsSoundFrom 71 = .ok (.iload_n 3, 1) := by decide +kernel
theorem dX0_arePollsSoundFrom_72 : decode cX0_arePollsSoundFrom 72 = .ok (.invokevirtual 82, 3) := by decide +kernel
theorem dX0_arePollsSoundFrom_75 : decode cX0_arePollsSoundFrom 75 = .ok (.ifCond .ne 5, 3) := by decide +kernel
theorem dX0_arePollsSoundFrom_78 : decode cX0_arePollsSoundFrom 78 = .ok (.iconst 0, 1) := by decide +kernel
theorem dX0_arePollsSoundFrom_79 : decode cX0_arePollsSoundFrom 79 = .ok (.ireturn, 1) := by decide +kernel
theorem dX0_arePollsSoundFrom_80 : decode cX0_arePollsSoundFrom 80 = .ok (.aload_n 0, 1) := by decide +kernel
theorem dX0_arePollsSoundFrom_81 : decode cX0_arePollsSoundFrom 81 = .ok (.getfield 18, 3) := by decide +kernel
theorem dX0_arePollsSoundFrom_84 : decode cX0_arePollsSoundFrom 84 = .ok (.iload 4, 2) := by decide +kernel
theorem dX0_arePollsSoundFrom_86 : decode cX0_arePollsSoundFrom 86 = .ok (.iload 4, 2) := by decide +kernel
theorem dX0_arePollsSoundFrom_88 : decode cX0_arePollsSoundFrom 88 = .ok (.iconst 1, 1) := by decide +kernel
theorem dX0_arePollsSoundFrom_89 : decode cX0_arePollsSoundFrom 89 = .ok (.iadd, 1) := by decide +kernel
theorem dX0_arePollsSoundFrom_90 : decode cX0_arePollsSoundFrom 90 = .ok (.invokevirtual 86, 3) := by decide +kernel
theorem dX0_arePollsSoundFrom_93 : decode cX0_arePollsSoundFrom 93 = .ok (.iinc 3 1, 3) := by decide +kernel
theorem dX0_arePollsSoundFrom_96 : decode cX0_arePollsSoundFrom 96 = .ok (.goto (-86), 3) := by decide +kernel
theorem dX0_arePollsSoundFrom_99 : decode cX0_arePollsSoundFrom 99 = .ok (.aload_n 0, 1) := by decide +kernel
theorem dX0_arePollsSoundFrom_100 : decode cX0_arePollsSoundFrom 100 = .ok (.getfield 18, 3) := by decide +kernel
theorem dX0_arePollsSoundFrom_103 : decode cX0_arePollsSoundFrom 103 = .ok (.getfield 31, 3) := by decide +kernel
theorem dX0_arePollsSoundFrom_106 : decode cX0_arePollsSoundFrom 106 = .ok (.ifCond .ne 7, 3) := by decide +kernel
theorem dX0_arePollsSoundFrom_109 : decode cX0_arePollsSoundFrom 109 = .ok (.iconst 1, 1) := by decide +kernel
theorem dX0_arePollsSoundFrom_110 : decode cX0_arePollsSoundFrom 110 = .ok (.goto 4, 3) := by decide +kernel
theorem dX0_arePollsSoundFrom_113 : decode cX0_arePollsSoundFrom 113 = .ok (.iconst 0, 1) := by decide +kernel
theorem dX0_arePollsSoundFrom_114 : decode cX0_arePollsSoundFrom 114 = .ok (.ireturn, 1) := by decide +kernel
theorem dX0_isOrderFree_0 : decode cX0_isOrderFree 0 = .ok (.aload_n 0, 1) := by decide +kernel
theorem dX0_isOrderFree_1 : decode cX0_isOrderFree 1 = .ok (.aload_n 1, 1) := by decide +kernel
theorem dX0_isOrderFree_2 : decode cX0_isOrderFree 2 = .ok (.aload_n 2, 1) := by decide +kernel
theorem dX0_isOrderFree_3 : decode cX0_isOrderFree 3 = .ok (.invokevirtual 90, 3) := by decide +kernel
theorem dX0_isOrderFree_6 : decode cX0_isOrderFree 6 = .ok (.ifCond .le 5, 3) := by decide +kernel
theorem dX0_isOrderFree_9 : decode cX0_isOrderFree 9 = .ok (.iconst 1, 1) := by decide +kernel
theorem dX0_isOrderFree_10 : decode cX0_isOrderFree 10 = .ok (.ireturn, 1) := by decide +kernel
theorem dX0_isOrderFree_11 : decode cX0_isOrderFree 11 = .ok (.aload_n 0, 1) := by decide +kernel
theorem dX0_isOrderFree_12 : decode cX0_isOrderFree 12 = .ok (.getfield 18, 3) := by decide +kernel
theorem dX0_isOrderFree_15 : decode cX0_isOrderFree 15 = .ok (.aload_n 3, 1) := by decide +kernel
theorem dX0_isOrderFree_16 : decode cX0_isOrderFree 16 = .ok (.invokevirtual 79, 3) := by decide +kernel
theorem dX0_isOrderFree_19 : decode cX0_isOrderFree 19 = .ok (.aload_n 1, 1) := by decide +kernel
theorem dX0_isOrderFree_20 : decode cX0_isOrderFree 20 = .ok (.aload_n 0, 1) := by decide +kernel
theorem dX0_isOrderFree_21 : decode cX0_isOrderFree 21 = .ok (.getfield 18, 3) := by decide +kernel
theorem dX0_isOrderFree_24 : decode cX0_isOrderFree 24 = .ok (.invokevirtual 93, 3) := by decide +kernel
theorem dX0_isOrderFree_27 : decode cX0_isOrderFree 27 = .ok (.pop, 1) := by decide +kernel
theorem dX0_isOrderFree_28 : decode cX0_isOrderFree 28 = .ok (.aload_n 2, 1) := by decide +kernel
theorem dX0_isOrderFree_29 : decode cX0_isOrderFree 29 = .ok (.aload_n 0, 1) := by decide +kernel
theorem dX0_isOrderFree_30 : decode cX0_isOrderFree 30 = .ok (.getfield 18, 3) := by decide +kernel
theorem dX0_isOrderFree_33 : decode cX0_isOrderFree 33 = .ok (.invokevirtual 93, 3) := by decide +kernel
theorem dX0_isOrderFree_36 : decode cX0_isOrderFree 36 = .ok (.pop, 1) := by decide +kernel
theorem dX0_isOrderFree_37 : decode cX0_isOrderFree 37 = .ok (.aload_n 0, 1) := by decide +kernel
theorem dX0_isOrderFree_38 : decode cX0_isOrderFree 38 = .ok (.getfield 21, 3) := by decide +kernel
theorem dX0_isOrderFree_41 : decode cX0_isOrderFree 41 = .ok (.aload_n 3, 1) := by decide +kernel
theorem dX0_isOrderFree_42 : decode cX0_isOrderFree 42 = .ok (.invokevirtual 79, 3) := by decide +kernel
theorem dX0_isOrderFree_45 : decode cX0_isOrderFree 45 = .ok (.aload_n 2, 1) := by decide +kernel
theorem dX0_isOrderFree_46 : decode cX0_isOrderFree 46 = .ok (.aload_n 0, 1) := by decide +kernel
theorem dX0_isOrderFree_47 : decode cX0_isOrderFree 47 = .ok (.getfield 21, 3) := by decide +kernel
theorem dX0_isOrderFree_50 : decode cX0_isOrderFree 50 = .ok (.invokevirtual 93, 3) := by decide +kernel
theorem dX0_isOrderFree_53 : decode cX0_isOrderFree 53 = .ok (.pop, 1) := by decide +kernel
theorem dX0_isOrderFree_54 : decode cX0_isOrderFree 54 = .ok (.aload_n 1, 1) := by decide +kernel
theorem dX0_isOrderFree_55 : decode cX0_isOrderFree 55 = .ok (.aload_n 0, 1) := by decide +kernel
theorem dX0_isOrderFree_56 : decode cX0_isOrderFree 56 = .ok (.getfield 21, 3) := by decide +kernel
theorem dX0_isOrderFree_59 : decode cX0_isOrderFree 59 = .ok (.invokevirtual 93, 3) := by decide +kernel
theorem dX0_isOrderFree_62 : decode cX0_isOrderFree 62 = .ok (.pop, 1) := by decide +kernel
theorem dX0_isOrderFree_63 : decode cX0_isOrderFree 63 = .ok (.aload_n 0, 1) := by decide +kernel
theorem dX0_isOrderFree_64 : decode cX0_isOrderFree 64 = .ok (.getfield 18, 3) := by decide +kernel
theorem dX0_isOrderFree_67 : decode cX0_isOrderFree 67 = .ok (.aload_n 0, 1) := by decide +kernel
theorem dX0_isOrderFree_68 : decode cX0_isOrderFree 68 = .ok (.getfield 21, 3) := by decide +kernel
theorem dX0_isOrderFree_71 : decode cX0_isOrderFree 71 = .ok (.invokevirtual 96, 3) := by decide +kernel
theorem dX0_isOrderFree_74 : decode cX0_isOrderFree 74 = .ok (.ireturn, 1) := by decide +kernel
theorem dX0_isUndone_0 : decode cX0_isUndone 0 = .ok (.aload_n 0, 1) := by decide +kernel
theorem dX0_isUndone_1 : decode cX0_isUndone 1 = .ok (.aload_n 1, 1) := by decide +kernel
theorem dX0_isUndone_2 : decode cX0_isUndone 2 = .ok (.aload_n 2, 1) := by decide +kernel
theorem dX0_isUndone_3 : decode cX0_isUndone 3 = .ok (.aload_n 0, 1) := by decide +kernel
theorem dX0_isUndone_4 : decode cX0_isUndone 4 = .ok (.getfield 27, 3) := by decide +kernel
theorem dX0_isUndone_7 : decode cX0_isUndone 7 = .ok (.invokevirtual 100, 3) := by decide +kernel
theorem dX0_isUndone_10 : decode cX0_isUndone 10 = .ok (.aload_n 0, 1) := by decide +kernel
theorem dX0_isUndone_11 : decode cX0_isUndone 11 = .ok (.getfield 18, 3) := by decide +kernel
theorem dX0_isUndone_14 : decode cX0_isUndone 14 = .ok (.aload_n 2, 1) := by decide +kernel
theorem dX0_isUndone_15 : decode cX0_isUndone 15 = .ok (.invokevirtual 79, 3) := by decide +kernel
theorem dX0_isUndone_18 : decode cX0_isUndone 18 = .ok (.aload_n 1, 1) := by decide +kernel
theorem dX0_isUndone_19 : decode cX0_isUndone 19 = .ok (.aload_n 0, 1) := by decide +kernel
theorem dX0_isUndone_20 : decode cX0_isUndone 20 = .ok (.getfield 18, 3) := by decide +kernel
theorem dX0_isUndone_23 : decode cX0_isUndone 23 = .ok (.invokevirtual 93, 3) := by decide +kernel
theorem dX0_isUndone_26 : decode cX0_isUndone 26 = .ok (.pop, 1) := by decide +kernel
theorem dX0_isUndone_27 : decode cX0_isUndone 27 = .ok (.aload_n 0, 1) := by decide +kernel
theorem dX0_isUndone_28 : decode cX0_isUndone 28 = .ok (.getfield 27, 3) := by decide +kernel
theorem dX0_isUndone_31 : decode cX0_isUndone 31 = .ok (.aload_n 0, 1) := by decide +kernel
theorem dX0_isUndone_32 : decode cX0_isUndone 32 = .ok (.getfield 18, 3) := by decide +kernel
theorem dX0_isUndone_35 : decode cX0_isUndone 35 = .ok (.invokevirtual 93, 3) := by decide +kernel
theorem dX0_isUndone_38 : decode cX0_isUndone 38 = .ok (.pop, 1) := by decide +kernel
theorem dX0_isUndone_39 : decode cX0_isUndone 39 = .ok (.aload_n 0, 1) := by decide +kernel
theorem dX0_isUndone_40 : decode cX0_isUndone 40 = .ok (.getfield 18, 3) := by decide +kernel
theorem dX0_isUndone_43 : decode cX0_isUndone 43 = .ok (.aload_n 2, 1) := by decide +kernel
theorem dX0_isUndone_44 : decode cX0_isUndone 44 = .ok (.invokevirtual 96, 3) := by decide +kernel
theorem dX0_isUndone_47 : decode cX0_isUndone 47 = .ok (.ireturn, 1) := by decide +kernel
theorem dX0_isMixAlike_0 : decode cX0_isMixAlike 0 = .ok (.aload_n 0, 1) := by decide +kernel
theorem dX0_isMixAlike_1 : decode cX0_isMixAlike 1 = .ok (.getfield 18, 3) := by decide +kernel
theorem dX0_isMixAlike_4 : decode cX0_isMixAlike 4 = .ok (.aload_n 2, 1) := by decide +kernel
theorem dX0_isMixAlike_5 : decode cX0_isMixAlike 5 = .ok (.invokevirtual 79, 3) := by decide +kernel
theorem dX0_isMixAlike_8 : decode cX0_isMixAlike 8 = .ok (.aload_n 0, 1) := by decide +kernel
theorem dX0_isMixAlike_9 : decode cX0_isMixAlike 9 = .ok (.getfield 18, 3) := by decide +kernel
theorem dX0_isMixAlike_12 : decode cX0_isMixAlike 12 = .ok (.aload_n 1, 1) := by decide +kernel
theorem dX0_isMixAlike_13 : decode cX0_isMixAlike 13 = .ok (.iload_n 3, 1) := by decide +kernel
theorem dX0_isMixAlike_14 : decode cX0_isMixAlike 14 = .ok (.invokevirtual 104, 3) := by decide +kernel
theorem dX0_isMixAlike_17 : decode cX0_isMixAlike 17 = .ok (.aload_n 0, 1) := by decide +kernel
theorem dX0_isMixAlike_18 : decode cX0_isMixAlike 18 = .ok (.getfield 21, 3) := by decide +kernel
theorem dX0_isMixAlike_21 : decode cX0_isMixAlike 21 = .ok (.aload_n 1, 1) := by decide +kernel
theorem dX0_isMixAlike_22 : decode cX0_isMixAlike 22 = .ok (.invokevirtual 79, 3) := by decide +kernel
theorem dX0_isMixAlike_25 : decode cX0_isMixAlike 25 = .ok (.aload_n 0, 1) := by decide +kernel
theorem dX0_isMixAlike_26 : decode cX0_isMixAlike 26 = .ok (.getfield 21, 3) := by decide +kernel
theorem dX0_isMixAlike_29 : decode cX0_isMixAlike 29 = .ok (.aload_n 2, 1) := by decide +kernel
theorem dX0_isMixAlike_30 : decode cX0_isMixAlike 30 = .ok (.iload_n 3, 1) := by decide +kernel
theorem dX0_isMixAlike_31 : decode cX0_isMixAlike 31 = .ok (.invokevirtual 104, 3) := by decide +kernel
theorem dX0_isMixAlike_34 : decode cX0_isMixAlike 34 = .ok (.aload_n 0, 1) := by decide +kernel
theorem dX0_isMixAlike_35 : decode cX0_isMixAlike 35 = .ok (.getfield 18, 3) := by decide +kernel
theorem dX0_isMixAlike_38 : decode cX0_isMixAlike 38 = .ok (.aload_n 0, 1) := by decide +kernel
theorem dX0_isMixAlike_39 : decode cX0_isMixAlike 39 = .ok (.getfield 21, 3) := by decide +kernel
theorem dX0_isMixAlike_42 : decode cX0_isMixAlike 42 = .ok (.invokevirtual 96, 3) := by decide +kernel
theorem dX0_isMixAlike_45 : decode cX0_isMixAlike 45 = .ok (.ireturn, 1) := by decide +kernel
