theorem dX3_init_0 : decode cX3_init 0 = .ok (.aload_n 0, 1) := by decide +kernel
theorem dX3_init_1 : decode cX3_init 1 = .ok (.invokespecial 1, 3) := by decide +kernel
theorem dX3_init_4 : decode cX3_init 4 = .ok (.return_, 1) := by decide +kernel
theorem dX3_becomeSpan_0 : decode cX3_becomeSpan 0 = .ok (.aload_n 0, 1) := by decide +kernel
theorem dX3_becomeSpan_1 : decode cX3_becomeSpan 1 = .ok (.aload_n 1, 1) := by decide +kernel
theorem dX3_becomeSpan_2 : decode cX3_becomeSpan 2 = .ok (.putfield 7, 3) := by decide +kernel
theorem dX3_becomeSpan_5 : decode cX3_becomeSpan 5 = .ok (.aload_n 0, 1) := by decide +kernel
theorem dX3_becomeSpan_6 : decode cX3_becomeSpan 6 = .ok (.iconst 0, 1) := by decide +kernel
theorem dX3_becomeSpan_7 : decode cX3_becomeSpan 7 = .ok (.putfield 13, 3) := by decide +kernel
theorem dX3_becomeSpan_10 : decode cX3_becomeSpan 10 = .ok (.aload_n 0, 1) := by decide +kernel
theorem dX3_becomeSpan_11 : decode cX3_becomeSpan 11 = .ok (.iload_n 2, 1) := by decide +kernel
theorem dX3_becomeSpan_12 : decode cX3_becomeSpan 12 = .ok (.putfield 17, 3) := by decide +kernel
theorem dX3_becomeSpan_15 : decode cX3_becomeSpan 15 = .ok (.aload_n 0, 1) := by decide +kernel
theorem dX3_becomeSpan_16 : decode cX3_becomeSpan 16 = .ok (.iload_n 3, 1) := by decide +kernel
theorem dX3_becomeSpan_17 : decode cX3_becomeSpan 17 = .ok (.putfield 20, 3) := by decide +kernel
theorem dX3_becomeSpan_20 : decode cX3_becomeSpan 20 = .ok (.aload_n 0, 1) := by decide +kernel
theorem dX3_becomeSpan_21 : decode cX3_becomeSpan 21 = .ok (.iload 4, 2) := by decide +kernel
theorem dX3_becomeSpan_23 : decode cX3_becomeSpan 23 = .ok (.putfield 24, 3) := by decide +kernel
theorem dX3_becomeSpan_26 : decode cX3_becomeSpan 26 = .ok (.aload_n 0, 1) := by decide +kernel
theorem dX3_becomeSpan_27 : decode cX3_becomeSpan 27 = .ok (.iload 5, 2) := by decide +kernel
theorem dX3_becomeSpan_29 : decode cX3_becomeSpan 29 = .ok (.putfield 27, 3) := by decide +kernel
theorem dX3_becomeSpan_32 : decode cX3_becomeSpan 32 = .ok (.return_, 1) := by decide +kernel
theorem dX3_becomeCut_0 : decode cX3_becomeCut 0 = .ok (.aload_n 0, 1) := by decide +kernel
theorem dX3_becomeCut_1 : decode cX3_becomeCut 1 = .ok (.aload_n 1, 1) := by decide +kernel
theorem dX3_becomeCut_2 : decode cX3_becomeCut 2 = .ok (.getfield 7, 3) := by decide +kernel
theorem dX3_becomeCut_5 : decode cX3_becomeCut 5 = .ok (.putfield 7, 3) := by decide +kernel
theorem dX3_becomeCut_8 : decode cX3_becomeCut 8 = .ok (.aload_n 0, 1) := by decide +kernel
theorem dX3_becomeCut_9 : decode cX3_becomeCut 9 = .ok (.aload_n 1, 1) := by decide +kernel
theorem dX3_becomeCut_10 : decode cX3_becomeCut 10 = .ok (.getfield 13, 3) := by decide +kernel
theorem dX3_becomeCut_13 : decode cX3_becomeCut 13 = .ok (.iconst 1, 1) := by decide +kernel
theorem dX3_becomeCut_14 : decode cX3_becomeCut 14 = .ok (.iadd, 1) := by decide +kernel
theorem dX3_becomeCut_15 : decode cX3_becomeCut 15 = .ok (.putfield 13, 3) := by decide +kernel
theorem dX3_becomeCut_18 : decode cX3_becomeCut 18 = .ok (.aload_n 0, 1) := by decide +kernel
theorem dX3_becomeCut_19 : decode cX3_becomeCut 19 = .ok (.iload_n 2, 1) := by decide +kernel
theorem dX3_becomeCut_20 : decode cX3_becomeCut 20 = .ok (.ifCond .eq 10, 3) := by decide +kernel
theorem dX3_becomeCut_23 : decode cX3_becomeCut 23 = .ok (.aload_n 1, 1) := by decide +kernel
theorem dX3_becomeCut_24 : decode cX3_becomeCut 24 = .ok (.getfield 17, 3) := by decide +kernel
theorem dX3_becomeCut_27 : decode cX3_becomeCut 27 = .ok (.goto 4, 3) := by decide +kernel
theorem dX3_becomeCut_30 : decode cX3_becomeCut 30 = .ok (.iload_n 3, 1) := by decide +kernel
theorem dX3_becomeCut_31 : decode cX3_becomeCut 31 = .ok (.putfield 17, 3) := by decide +kernel
theorem dX3_becomeCut_34 : decode cX3_becomeCut 34 = .ok (.aload_n 0, 1) := by decide +kernel
theorem dX3_becomeCut_35 : decode cX3_becomeCut 35 = .ok (.iload_n 2, 1) := by decide +kernel
theorem dX3_becomeCut_36 : decode cX3_becomeCut 36 = .ok (.ifCond .eq 10, 3) := by decide +kernel
theorem dX3_becomeCut_39 : decode cX3_becomeCut 39 = .ok (.aload_n 1, 1) := by decide +kernel
theorem dX3_becomeCut_40 : decode cX3_becomeCut 40 = .ok (.getfield 20, 3) := by decide +kernel
theorem dX3_becomeCut_43 : decode cX3_becomeCut 43 = .ok (.goto 5, 3) := by decide +kernel
theorem dX3_becomeCut_46 : decode cX3_becomeCut 46 = .ok (.iload 4, 2) := by decide +kernel
theorem dX3_becomeCut_48 : decode cX3_becomeCut 48 = .ok (.putfield 20, 3) := by decide +kernel
theorem dX3_becomeCut_51 : decode cX3_becomeCut 51 = .ok (.aload_n 0, 1) := by decide +kernel
theorem dX3_becomeCut_52 : decode cX3_becomeCut 52 = .ok (.iload_n 2, 1) := by decide +kernel
theorem dX3_becomeCut_53 : decode cX3_becomeCut 53 = .ok (.ifCond .eq 7, 3) := by decide +kernel
theorem dX3_becomeCut_56 : decode cX3_becomeCut 56 = .ok (.iload_n 3, 1) := by decide +kernel
theorem dX3_becomeCut_57 : decode cX3_becomeCut 57 = .ok (.goto 7, 3) := by decide +kernel
theorem dX3_becomeCut_60 : decode cX3_becomeCut 60 = .ok (.aload_n 1, 1) := by decide +kernel
theorem dX3_becomeCut_61 : decode cX3_becomeCut 61 = .ok (.getfield 24, 3) := by decide +kernel
theorem dX3_becomeCut_64 : decode cX3_becomeCut 64 = .ok (.putfield 24, 3) := by decide +kernel
theorem dX3_becomeCut_67 : decode cX3_becomeCut 67 = .ok (.aload_n 0, 1) := by decide +kernel
theorem dX3_becomeCut_68 : decode cX3_becomeCut 68 = .ok (.iload_n 2, 1) := by decide +kernel
theorem dX3_becomeCut_69 : decode cX3_becomeCut 69 = .ok (.ifCond .eq 8, 3) := by decide +kernel
theorem dX3_becomeCut_72 : decode cX3_becomeCut 72 = .ok (.iload 4, 2) := by decide +kernel
theorem dX3_becomeCut_74 : decode cX3_becomeCut 74 = .ok (.goto 7, 3) := by decide +kernel
theorem dX3_becomeCut_77 : decode cX3_becomeCut 77 = .ok (.aload_n 1, 1) := by decide +kernel
theorem dX3_becomeCut_78 : decode cX3_becomeCut 78 = .ok (.getfield 27, 3) := by decide +kernel
theorem dX3_becomeCut_81 : decode cX3_becomeCut 81 = .ok (.putfield 27, 3) := by decide +kernel
theorem dX3_becomeCut_84 : decode cX3_becomeCut 84 = .ok (.return_, 1) := by decide +kernel
theorem dX3_covers_0 : decode cX3_covers 0 = .ok (.aload_n 0, 1) := by decide +kernel
theorem dX3_covers_1 : decode cX3_covers 1 = .ok (.getfield 20, 3) := by decide +kernel
theorem dX3_covers_4 : decode cX3_covers 4 = .ok (.ifCond .eq 19, 3) := by decide +kernel
theorem dX3_covers_7 : decode cX3_covers 7 = .ok (.iload_n 1, 1) := by decide +kernel
theorem dX3_covers_8 : decode cX3_covers 8 = .ok (.aload_n 0, 1) := by decide +kernel
theorem dX3_covers_9 : decode cX3_covers 9 = .ok (.getfield 17, 3) := by decide +kernel
theorem dX3_covers_12 : decode cX3_covers 12 = .ok (.if_icmp .ge 7, 3) := by decide +kernel
theorem dX3_covers_15 : decode cX3_covers 15 = .ok (.iconst 1, 1) := by decide +kernel
theorem dX3_covers_16 : decode cX3_covers 16 = .ok (.goto 20, 3) := by decide +kernel
theorem dX3_covers_19 : decode cX3_covers 19 = .ok (.iconst 0, 1) := by decide +kernel
theorem dX3_covers_20 : decode cX3_covers 20 = .ok (.goto 16, 3) := by decide +kernel
theorem dX3_covers_23 : decode cX3_covers 23 = .ok (.iload_n 1, 1) := by decide +kernel
theorem dX3_covers_24 : decode cX3_covers 24 = .ok (.aload_n 0, 1) := by decide +kernel
theorem dX3_covers_25 : decode cX3_covers 25 = .ok (.getfield 17, 3) := by decide +kernel
theorem dX3_covers_28 : decode cX3_covers 28 = .ok (.if_icmp .gt 7, 3) := by decide +kernel
theorem dX3_covers_31 : decode cX3_covers 31 = .ok (.iconst 1, 1) := by decide +kernel
theorem dX3_covers_32 : decode cX3_covers 32 = .ok (.goto 4, 3) := by decide +kernel
theorem dX3_covers_35 : decode cX3_covers 35 = .ok (.iconst 0, 1) := by decide +kernel
theorem dX3_covers_36 : decode cX3_covers 36 = .ok (.istore_n 2, 1) := by decide +kernel
theorem dX3_covers_37 : decode cX3_covers 37 = .ok (.aload_n 0, 1) := by decide +kernel
theorem dX3_covers_38 : decode cX3_covers 38 = .ok (.getfield 27, 3) := by decide +kernel
theorem dX3_covers_41 : decode cX3_covers 41 = .ok (.ifCond .eq 19, 3) := by decide +kernel
theorem dX3_covers_44 : decode cX3_covers 44 = .ok (.iload_n 1, 1) := by decide +kernel
theorem dX3_covers_45 : decode cX3_covers 45 = .ok (.aload_n 0, 1) := by decide +kernel
theorem dX3_covers_46 : decode cX3_covers 46 = .ok (.getfield 24, 3) := by decide +kernel
theorem dX3_covers_49 : decode cX3_covers 49 = .ok (.if_icmp .le 7, 3) := by decide +kernel
theorem dX3_covers_52 : decode cX3_covers 52 = .ok (.iconst 1, 1) := by decide +kernel
theorem dX3_covers_53 : decode cX3_covers 53 = .ok (.goto 20, 3) := by decide +kernel
theorem dX3_covers_56 : decode cX3_covers 56 = .ok (.iconst 0, 1) := by decide +kernel
theorem dX3_covers_57 : decode cX3_covers 57 = .ok (.goto 16, 3) := by decide +kernel
theorem dX3_covers_60 : decode cX3_covers 60 = .ok (.iload_n 1, 1) := by decide +kernel
theorem dX3_covers_61 : decode cX3_covers 61 = .ok (.aload_n 0, 1) := by decide +kernel
theorem dX3_covers_62 : decode cX3_covers 62 = .ok (.getfield 24, 3) := by decide +kernel
theorem dX3_covers_65 : decode cX3_covers 65 = .ok (.if_icmp .lt 7, 3) := by decide +kernel
theorem dX3_covers_68 : decode cX3_covers 68 = .ok (.iconst 1, 1) := by decide +kernel
theorem dX3_covers_69 : decode cX3_covers 69 = .ok (.goto 4, 3) := by decide +kernel
theorem dX3_covers_72 : decode cX3_covers 72 = .ok (.iconst 0, 1) := by decide +kernel
theorem dX3_covers_73 : decode cX3_covers 73 = .ok (.istore_n 3, 1) := by decide +kernel
theorem dX3_covers_74 : decode cX3_covers 74 = .ok (.iload_n 2, 1) := by decide +kernel
theorem dX3_covers_75 : decode cX3_covers 75 = .ok (.ifCond .ne 11, 3) := by decide +kernel
theorem dX3_covers_78 : decode cX3_covers 78 = .ok (.iload_n 3, 1) := by decide +kernel
theorem dX3_covers_79 : decode cX3_covers 79 = .ok (.ifCond .ne 7, 3) := by decide +kernel
theorem dX3_covers_82 : decode cX3_covers 82 = .ok (.iconst 1, 1) := by decide +kernel
theorem dX3_covers_83 : decode cX3_covers 83 = .ok (.goto 4, 3) := by decide +kernel
theorem dX3_covers_86 : decode cX3_covers 86 = .ok (.iconst 0, 1) := by decide +kernel
theorem dX3_covers_87 : decode cX3_covers 87 = .ok (.ireturn, 1) := by decide +kernel
theorem dX3_beginIn_0 : decode cX3_beginIn 0 = .ok (.aload_n 0, 1) := by decide +kernel
theorem dX3_beginIn_1 : decode cX3_beginIn 1 = .ok (.getfield 20, 3) := by decide +kernel
theorem dX3_beginIn_4 : decode cX3_beginIn 4 = .ok (.ifCond .eq 14, 3) := by decide +kernel
theorem dX3_beginIn_7 : decode cX3_beginIn 7 = .ok (.aload_n 1, 1) := by decide +kernel
theorem dX3_beginIn_8 : decode cX3_beginIn 8 = .ok (.aload_n 0, 1) := by decide +kernel
theorem dX3_beginIn_9 : decode cX3_beginIn 9 = .ok (.getfield 17, 3) := by decide +kernel
theorem dX3_beginIn_12 : decode cX3_beginIn 12 = .ok (.invokevirtual 30, 3) := by decide +kernel
theorem dX3_beginIn_15 : decode cX3_beginIn 15 = .ok (.goto 11, 3) := by decide +kernel
theorem dX3_beginIn_18 : decode cX3_beginIn 18 = .ok (.aload_n 1, 1) := by decide +kernel
theorem dX3_beginIn_19 : decode cX3_beginIn 19 = .ok (.aload_n 0, 1) := by decide +kernel
theorem dX3_beginIn_20 : decode cX3_beginIn 20 = .ok (.getfield 17, 3) := by decide +kernel
theorem dX3_beginIn_23 : decode cX3_beginIn 23 = .ok (.invokevirtual 36, 3) := by decide +kernel
theorem dX3_beginIn_26 : decode cX3_beginIn 26 = .ok (.ireturn, 1) := by decide +kernel
theorem dX3_stopIn_0 : decode cX3_stopIn 0 = .ok (.aload_n 0, 1) := by decide +kernel
theorem dX3_stopIn_1 : decode cX3_stopIn 1 = .ok (.getfield 27, 3) := by decide +kernel
theorem dX3_stopIn_4 : decode cX3_stopIn 4 = .ok (.ifCond .eq 14, 3) := by decide +kernel
theorem dX3_stopIn_7 : decode cX3_stopIn 7 = .ok (.aload_n 1, 1) := by decide +kernel
theorem dX3_stopIn_8 : decode cX3_stopIn 8 = .ok (.aload_n 0, 1) := by decide +kernel
theorem dX3_stopIn_9 : decode cX3_stopIn 9 = .ok (.getfield 24, 3) := by decide +kernel
theorem dX3_stopIn_12 : decode cX3_stopIn 12 = .ok (.invokevirtual 36, 3) := by decide +kernel
theorem dX3_stopIn_15 : decode cX3_stopIn 15 = .ok (.goto 11, 3) := by decide +kernel
theorem dX3_stopIn_18 : decode cX3_stopIn 18 = .ok (.aload_n 1, 1) := by decide +kernel
theorem dX3_stopIn_19 : decode cX3_stopIn 19 = .ok (.aload_n 0, 1) := by decide +kernel
theorem dX3_stopIn_20 : decode cX3_stopIn 20 = .ok (.getfield 24, 3) := by decide +kernel
theorem dX3_stopIn_23 : decode cX3_stopIn 23 = .ok (.invokevirtual 30, 3) := by decide +kernel
theorem dX3_stopIn_26 : decode cX3_stopIn 26 = .ok (.istore_n 2, 1) := by decide +kernel
theorem dX3_stopIn_27 : decode cX3_stopIn 27 = .ok (.iload_n 2, 1) := by decide +kernel
theorem dX3_stopIn_28 : decode cX3_stopIn 28 = .ok (.aload_n 0, 1) := by decide +kernel
theorem dX3_stopIn_29 : decode cX3_stopIn 29 = .ok (.aload_n 1, 1) := by decide +kernel
theorem dX3_stopIn_30 : decode cX3_stopIn 30 = .ok (.invokevirtual 39, 3) := by decide +kernel
theorem dX3_stopIn_33 : decode cX3_stopIn 33 = .ok (.invokestatic 43, 3) := by decide +kernel
theorem dX3_stopIn_36 : decode cX3_stopIn 36 = .ok (.ireturn, 1) := by decide +kernel
theorem dX3_countEntries_0 : decode cX3_countEntries 0 = .ok (.aload_n 0, 1) := by decide +kernel
theorem dX3_countEntries_1 : decode cX3_countEntries 1 = .ok (.getfield 7, 3) := by decide +kernel
theorem dX3_countEntries_4 : decode cX3_countEntries 4 = .ok (.astore_n 1, 1) := by decide +kernel
theorem dX3_countEntries_5 : decode cX3_countEntries 5 = .ok (.aload_n 1, 1) := by decide +kernel
theorem dX3_countEntries_6 : decode cX3_countEntries 6 = .ok (.ifnonnull 7, 3) := by decide +kernel
theorem dX3_countEntries_9 : decode cX3_countEntries 9 = .ok (.iconst (-1), 1) := by decide +kernel
theorem dX3_countEntries_10 : decode cX3_countEntries 10 = .ok (.goto 14, 3) := by decide +kernel
theorem dX3_countEntries_13 : decode cX3_countEntries 13 = .ok (.aload_n 0, 1) := by decide +kernel
theorem dX3_countEntries_14 : decode cX3_countEntries 14 = .ok (.aload_n 1, 1) := by decide +kernel
theorem dX3_countEntries_15 : decode cX3_countEntries 15 = .ok (.invokevirtual 49, 3) := by decide +kernel
theorem dX3_countEntries_18 : decode cX3_countEntries 18 = .ok (.aload_n 0, 1) := by decide +kernel
theorem dX3_countEntries_19 : decode cX3_countEntries 19 = .ok (.aload_n 1, 1) := by decide +kernel
theorem dX3_countEntries_20 : decode cX3_countEntries 20 = .ok (.invokevirtual 39, 3) := by decide +kernel
theorem dX3_countEntries_23 : decode cX3_countEntries 23 = .ok (.isub, 1) := by decide +kernel
theorem dX3_countEntries_24 : decode cX3_countEntries 24 = .ok (.ireturn, 1) := by decide +kernel
theorem dX3_hasJustItsSpan_0 : decode cX3_hasJustItsSpan 0 = .ok (.aload_n 0, 1) := by decide +kernel
theorem dX3_hasJustItsSpan_1 : decode cX3_hasJustItsSpan 1 = .ok (.getfield 7, 3) := by decide +kernel
theorem dX3_hasJustItsSpan_4 : decode cX3_hasJustItsSpan 4 = .ok (.astore_n 1, 1) := by decide +kernel
theorem dX3_hasJustItsSpan_5 : decode cX3_hasJustItsSpan 5 = .ok (.aload_n 1, 1) := by decide +kernel
theorem dX3_hasJustItsSpan_6 : decode cX3_hasJustItsSpan 6 = .ok (.ifnonnull 5, 3) := by decide +kernel
theorem dX3_hasJustItsSpan_9 : decode cX3_hasJustItsSpan 9 = .ok (.iconst 1, 1) := by decide +kernel
theorem dX3_hasJustItsSpan_10 : decode cX3_hasJustItsSpan 10 = .ok (.ireturn, 1) := by decide +kernel
theorem dX3_hasJustItsSpan_11 : decode cX3_hasJustItsSpan 11 = .ok (.aload_n 0, 1) := by decide +kernel
theorem dX3_hasJustItsSpan_12 : decode cX3_hasJustItsSpan 12 = .ok (.aload_n 1, 1) := by decide +kernel
theorem dX3_hasJustItsSpan_13 : decode cX3_hasJustItsSpan 13 = .ok (.invokevirtual 39, 3) := by decide +kernel
theorem dX3_hasJustItsSpan_16 : decode cX3_hasJustItsSpan 16 = .ok (.istore_n 2, 1) := by decide +kernel
theorem dX3_hasJustItsSpan_17 : decode cX3_hasJustItsSpan 17 = .ok (.aload_n 0, 1) := by decide +kernel
theorem dX3_hasJustItsSpan_18 : decode cX3_hasJustItsSpan 18 = .ok (.aload_n 1, 1) := by decide +kernel
theorem dX3_hasJustItsSpan_19 : decode cX3_hasJustItsSpan 19 = .ok (.invokevirtual 49, 3) := by decide +kernel
theorem dX3_hasJustItsSpan_22 : decode cX3_hasJustItsSpan 22 = .ok (.istore_n 3, 1) := by decide +kernel
theorem dX3_hasJustItsSpan_23 : decode cX3_hasJustItsSpan 23 = .ok (.iconst 0, 1) := by decide +kernel
theorem dX3_hasJustItsSpan_24 : decode cX3_hasJustItsSpan 24 = .ok (.istore 4, 2) := by decide +kernel
theorem dX3_hasJustItsSpan_26 : decode cX3_hasJustItsSpan 26 = .ok (.iload 4, 2) := by decide +kernel
theorem dX3_hasJustItsSpan_28 : decode cX3_hasJustItsSpan 28 = .ok (.aload_n 1, 1) := by decide +kernel
theorem dX3_hasJustItsSpan_29 : decode cX3_hasJustItsSpan 29 = .ok (.getfield 52, 3) := by decide +kernel
theorem dX3_hasJustItsSpan_32 : decode cX3_hasJustItsSpan 32 = .ok (.if_icmp .ge 46, 3) := by decide +kernel
theorem dX3_hasJustItsSpan_35 : decode cX3_hasJustItsSpan 35 = .ok (.iload 4, 2) := by decide +kernel
theorem dX3_hasJustItsSpan_37 : decode cX3_hasJustItsSpan 37 = .ok (.iload_n 2, 1) := by decide +kernel
theorem dX3_hasJustItsSpan_38 : decode cX3_hasJustItsSpan 38 = .ok (.if_icmp .lt 13, 3) := by decide +kernel
theorem dX3_hasJustItsSpan_41 : decode cX3_hasJustItsSpan 41 = .ok (.iload 4, 2) := by decide +kernel
theorem dX3_hasJustItsSpan_43 : decode cX3_hasJustItsSpan 43 = .ok (.iload_n 3, 1) := by decide +kernel
theorem dX3_hasJustItsSpan_44 : decode cX3_hasJustItsSpan 44 = .ok (.if_icmp .ge 7, 3) := by decide +kernel
theorem dX3_hasJustItsSpan_47 : decode cX3_hasJustItsSpan 47 = .ok (.iconst 1, 1) := by decide +kernel
theorem dX3_hasJustItsSpan_48 : decode cX3_hasJustItsSpan 48 = .ok (.goto 4, 3) := by decide +kernel
theorem dX3_hasJustItsSpan_51 : decode cX3_hasJustItsSpan 51 = .ok (.iconst 0, 1) := by decide +kernel
theorem dX3_hasJustItsSpan_52 : decode cX3_hasJustItsSpan 52 = .ok (.istore 5, 2) := by decide +kernel
theorem dX3_hasJustItsSpan_54 : decode cX3_hasJustItsSpan 54 = .ok (.iload 5, 2) := by decide +kernel
theorem dX3_hasJustItsSpan_56 : decode cX3_hasJustItsSpan 56 = .ok (.aload_n 0, 1) := by decide +kernel
theorem dX3_hasJustItsSpan_57 : decode cX3_hasJustItsSpan 57 = .ok (.aload_n 1, 1) := by decide +kernel
theorem dX3_hasJustItsSpan_58 : decode cX3_hasJustItsSpan 58 = .ok (.getfield 55, 3) := by decide +kernel
theorem dX3_hasJustItsSpan_61 : decode cX3_hasJustItsSpan 61 = .ok (.iload 4, 2) := by decide +kernel
theorem dX3_hasJustItsSpan_63 : decode cX3_hasJustItsSpan 63 = .ok (.iaload, 1) := by decide +kernel
theorem dX3_hasJustItsSpan_64 : decode cX3_hasJustItsSpan 64 = .ok (.invokevirtual 59, 3) := by decide +kernel
theorem dX3_hasJustItsSpan_67 : decode cX3_hasJustItsSpan 67 = .ok (.if_icmp .eq 5, 3) := by decide +kernel
theorem dX3_hasJustItsSpan_70 : decode cX3_hasJustItsSpan 70 = .ok (.iconst 0, 1) := by decide +kernel
theorem dX3_hasJustItsSpan_71 : decode cX3_hasJustItsSpan 71 = .ok (.ireturn, 1) := by decide +kernel
theorem dX3_hasJustItsSpan_72 : decode cX3_hasJustItsSpan 72 = .ok (.iinc 4 1, 3) := by decide +kernel
theorem dX3_hasJustItsSpan_75 : decode cX3_hasJustItsSpan 75 = .ok (.goto (-49), 3) := by decide +kernel
theorem dX3_hasJustItsSpan_78 : decode cX3_hasJustItsSpan 78 = .ok (.iconst 1, 1) := by decide +kernel
theorem dX3_hasJustItsSpan_79 : decode cX3_hasJustItsSpan 79 = .ok (.ireturn, 1) := by decide +kernel
theorem dX3_addTo_0 : decode cX3_addTo 0 = .ok (.aload_n 0, 1) := by decide +kernel
theorem dX3_addTo_1 : decode cX3_addTo 1 = .ok (.getfield 7, 3) := by decide +kernel
theorem dX3_addTo_4 : decode cX3_addTo 4 = .ok (.astore_n 3, 1) := by decide +kernel
theorem dX3_addTo_5 : decode cX3_addTo 5 = .ok (.aload_n 3, 1) := by decide +kernel
theorem dX3_addTo_6 : decode cX3_addTo 6 = .ok (.ifnonnull 9, 3) := by decide +kernel
theorem dX3_addTo_9 : decode cX3_addTo 9 = .ok (.lload_n 1, 1) := by decide +kernel
theorem dX3_addTo_10 : decode cX3_addTo 10 = .ok (.iconst (-1), 1) := by decide +kernel
theorem dX3_addTo_11 : decode cX3_addTo 11 = .ok (.invokestatic 63, 3) := by decide +kernel
theorem dX3_addTo_14 : decode cX3_addTo 14 = .ok (.lreturn, 1) := by decide +kernel
theorem dX3_addTo_15 : decode cX3_addTo 15 = .ok (.aload_n 0, 1) := by decide +kernel
theorem dX3_addTo_16 : decode cX3_addTo 16 = .ok (.aload_n 3, 1) := by decide +kernel
theorem dX3_addTo_17 : decode cX3_addTo 17 = .ok (.invokevirtual 49, 3) := by decide +kernel
theorem dX3_addTo_20 : decode cX3_addTo 20 = .ok (.istore 4, 2) := by decide +kernel
theorem dX3_addTo_22 : decode cX3_addTo 22 = .ok (.lload_n 1, 1) := by decide +kernel
theorem dX3_addTo_23 : decode cX3_addTo 23 = .ok (.aload_n 0, 1) := by decide +kernel
theorem dX3_addTo_24 : decode cX3_addTo 24 = .ok (.invokevirtual 69, 3) := by decide +kernel
theorem dX3_addTo_27 : decode cX3_addTo 27 = .ok (.invokestatic 63, 3) := by decide +kernel
theorem dX3_addTo_30 : decode cX3_addTo 30 = .ok (.lstore_n 1, 1) := by decide +kernel
theorem dX3_addTo_31 : decode cX3_addTo 31 = .ok (.aload_n 0, 1) := by decide +kernel
theorem dX3_addTo_32 : decode cX3_addTo 32 = .ok (.aload_n 3, 1) := by decide +kernel
theorem dX3_addTo_33 : decode cX3_addTo 33 = .ok (.invokevirtual 39, 3) := by decide +kernel
theorem dX3_addTo_36 : decode cX3_addTo 36 = .ok (.istore 5, 2) := by decide +kernel
theorem dX3_addTo_38 : decode cX3_addTo 38 = .ok (.iload 5, 2) := by decide +kernel
theorem dX3_addTo_40 : decode cX3_addTo 40 = .ok (.iload 4, 2) := by decide +kernel
theorem dX3_addTo_42 : decode cX3_addTo 42 = .ok (.if_icmp .ge 21, 3) := by decide +kernel
theorem dX3_addTo_45 : decode cX3_addTo 45 = .ok (.lload_n 1, 1) := by decide +kernel
theorem dX3_addTo_46 : decode cX3_addTo 46 = .ok (.aload_n 3, 1) := by decide +kernel
theorem dX3_addTo_47 : decode cX3_addTo 47 = .ok (.getfield 55, 3) := by decide +kernel
theorem dX3_addTo_50 : decode cX3_addTo 50 = .ok (.iload 5, 2) := by decide +kernel
theorem dX3_addTo_52 : decode cX3_addTo 52 = .ok (.iaload, 1) := by decide +kernel
theorem dX3_addTo_53 : decode cX3_addTo 53 = .ok (.invokestatic 63, 3) := by decide +kernel
theorem dX3_addTo_56 : decode cX3_addTo 56 = .ok (.lstore_n 1, 1) := by decide +kernel
theorem dX3_addTo_57 : decode cX3_addTo 57 = .ok (.iinc 5 1, 3) := by decide +kernel
theorem dX3_addTo_60 : decode cX3_addTo 60 = .ok (.goto (-22), 3) := by decide +kernel
theorem dX3_addTo_63 : decode cX3_addTo 63 = .ok (.lload_n 1, 1) := by decide +kernel
theorem dX3_addTo_64 : decode cX3_addTo 64 = .ok (.lreturn, 1) := by decide +kernel
