theorem dX1_init_0 : decode cX1_init 0 = .ok (.aload_n 0, 1) := by decide +kernel
theorem dX1_init_1 : decode cX1_init 1 = .ok (.invokespecial 3, 3) := by decide +kernel
theorem dX1_init_4 : decode cX1_init 4 = .ok (.aload_n 0, 1) := by decide +kernel
theorem dX1_init_5 : decode cX1_init 5 = .ok (.bipush 30, 2) := by decide +kernel
theorem dX1_init_7 : decode cX1_init 7 = .ok (.newarray .char, 2) := by decide +kernel
theorem dX1_init_9 : decode cX1_init 9 = .ok (.putfield 9, 3) := by decide +kernel
theorem dX1_init_12 : decode cX1_init 12 = .ok (.aload_n 0, 1) := by decide +kernel
theorem dX1_init_13 : decode cX1_init 13 = .ok (.bipush 30, 2) := by decide +kernel
theorem dX1_init_15 : decode cX1_init 15 = .ok (.newarray .int, 2) := by decide +kernel
theorem dX1_init_17 : decode cX1_init 17 = .ok (.putfield 15, 3) := by decide +kernel
theorem dX1_init_20 : decode cX1_init 20 = .ok (.aload_n 0, 1) := by decide +kernel
theorem dX1_init_21 : decode cX1_init 21 = .ok (.bipush 30, 2) := by decide +kernel
theorem dX1_init_23 : decode cX1_init 23 = .ok (.newarray .int, 2) := by decide +kernel
theorem dX1_init_25 : decode cX1_init 25 = .ok (.putfield 19, 3) := by decide +kernel
theorem dX1_init_28 : decode cX1_init 28 = .ok (.return_, 1) := by decide +kernel
theorem dX1_add_0 : decode cX1_add 0 = .ok (.aload_n 0, 1) := by decide +kernel
theorem dX1_add_1 : decode cX1_add 1 = .ok (.getfield 22, 3) := by decide +kernel
theorem dX1_add_4 : decode cX1_add 4 = .ok (.aload_n 0, 1) := by decide +kernel
theorem dX1_add_5 : decode cX1_add 5 = .ok (.getfield 9, 3) := by decide +kernel
theorem dX1_add_8 : decode cX1_add 8 = .ok (.arraylength, 1) := by decide +kernel
theorem dX1_add_9 : decode cX1_add 9 = .ok (.if_icmp .lt 4, 3) := by decide +kernel
theorem dX1_add_12 : decode cX1_add 12 = .ok (.return_, 1) := by decide +kernel
theorem dX1_add_13 : decode cX1_add 13 = .ok (.aload_n 0, 1) := by decide +kernel
theorem dX1_add_14 : decode cX1_add 14 = .ok (.getfield 9, 3) := by decide +kernel
theorem dX1_add_17 : decode cX1_add 17 = .ok (.aload_n 0, 1) := by decide +kernel
theorem dX1_add_18 : decode cX1_add 18 = .ok (.getfield 22, 3) := by decide +kernel
theorem dX1_add_21 : decode cX1_add 21 = .ok (.iload_n 1, 1) := by decide +kernel
theorem dX1_add_22 : decode cX1_add 22 = .ok (.castore, 1) := by decide +kernel
theorem dX1_add_23 : decode cX1_add 23 = .ok (.aload_n 0, 1) := by decide +kernel
theorem dX1_add_24 : decode cX1_add 24 = .ok (.getfield 15, 3) := by decide +kernel
theorem dX1_add_27 : decode cX1_add 27 = .ok (.aload_n 0, 1) := by decide +kernel
theorem dX1_add_28 : decode cX1_add 28 = .ok (.getfield 22, 3) := by decide +kernel
theorem dX1_add_31 : decode cX1_add 31 = .ok (.iload_n 2, 1) := by decide +kernel
theorem dX1_add_32 : decode cX1_add 32 = .ok (.iastore, 1) := by decide +kernel
theorem dX1_add_33 : decode cX1_add 33 = .ok (.aload_n 0, 1) := by decide +kernel
theorem dX1_add_34 : decode cX1_add 34 = .ok (.getfield 19, 3) := by decide +kernel
theorem dX1_add_37 : decode cX1_add 37 = .ok (.aload_n 0, 1) := by decide +kernel
theorem dX1_add_38 : decode cX1_add 38 = .ok (.getfield 22, 3) := by decide +kernel
theorem dX1_add_41 : decode cX1_add 41 = .ok (.iload_n 3, 1) := by decide +kernel
theorem dX1_add_42 : decode cX1_add 42 = .ok (.iastore, 1) := by decide +kernel
theorem dX1_add_43 : decode cX1_add 43 = .ok (.aload_n 0, 1) := by decide +kernel
theorem dX1_add_44 : decode cX1_add 44 = .ok (.dup, 1) := by decide +kernel
theorem dX1_add_45 : decode cX1_add 45 = .ok (.getfield 22, 3) := by decide +kernel
theorem dX1_add_48 : decode cX1_add 48 = .ok (.iconst 1, 1) := by decide +kernel
theorem dX1_add_49 : decode cX1_add 49 = .ok (.iadd, 1) := by decide +kernel
theorem dX1_add_50 : decode cX1_add 50 = .ok (.putfield 22, 3) := by decide +kernel
theorem dX1_add_53 : decode cX1_add 53 = .ok (.return_, 1) := by decide +kernel
theorem dX1_doStep_0 : decode cX1_doStep 0 = .ok (.iload_n 1, 1) := by decide +kernel
theorem dX1_doStep_1 : decode cX1_doStep 1 = .ok (.ifCond .lt 34, 3) := by decide +kernel
theorem dX1_doStep_4 : decode cX1_doStep 4 = .ok (.iload_n 1, 1) := by decide +kernel
theorem dX1_doStep_5 : decode cX1_doStep 5 = .ok (.aload_n 0, 1) := by decide +kernel
theorem dX1_doStep_6 : decode cX1_doStep 6 = .ok (.getfield 22, 3) := by decide +kernel
theorem dX1_doStep_9 : decode cX1_doStep 9 = .ok (.if_icmp .ge 26, 3) := by decide +kernel
theorem dX1_doStep_12 : decode cX1_doStep 12 = .ok (.aload_n 2, 1) := by decide +kernel
theorem dX1_doStep_13 : decode cX1_doStep 13 = .ok (.aload_n 0, 1) := by decide +kernel
theorem dX1_doStep_14 : decode cX1_doStep 14 = .ok (.getfield 9, 3) := by decide +kernel
theorem dX1_doStep_17 : decode cX1_doStep 17 = .ok (.iload_n 1, 1) := by decide +kernel
theorem dX1_doStep_18 : decode cX1_doStep 18 = .ok (.caload, 1) := by decide +kernel
theorem dX1_doStep_19 : decode cX1_doStep 19 = .ok (.aload_n 0, 1) := by decide +kernel
theorem dX1_doStep_20 : decode cX1_doStep 20 = .ok (.getfield 15, 3) := by decide +kernel
theorem dX1_doStep_23 : decode cX1_doStep 23 = .ok (.iload_n 1, 1) := by decide +kernel
theorem dX1_doStep_24 : decode cX1_doStep 24 = .ok (.iaload, 1) := by decide +kernel
theorem dX1_doStep_25 : decode cX1_doStep 25 = .ok (.aload_n 0, 1) := by decide +kernel
theorem dX1_doStep_26 : decode cX1_doStep 26 = .ok (.getfield 19, 3) := by decide +kernel
theorem dX1_doStep_29 : decode cX1_doStep 29 = .ok (.iload_n 1, 1) := by decide +kernel
theorem dX1_doStep_30 : decode cX1_doStep 30 = .ok (.iaload, 1) := by decide +kernel
theorem dX1_doStep_31 : decode cX1_doStep 31 = .ok (.invokevirtual 26, 3) := by decide +kernel
theorem dX1_doStep_34 : decode cX1_doStep 34 = .ok (.pop, 1) := by decide +kernel
theorem dX1_doStep_35 : decode cX1_doStep 35 = .ok (.return_, 1) := by decide +kernel
theorem dX1_playOn_0 : decode cX1_playOn 0 = .ok (.iconst 0, 1) := by decide +kernel
theorem dX1_playOn_1 : decode cX1_playOn 1 = .ok (.istore_n 2, 1) := by decide +kernel
theorem dX1_playOn_2 : decode cX1_playOn 2 = .ok (.iconst 0, 1) := by decide +kernel
theorem dX1_playOn_3 : decode cX1_playOn 3 = .ok (.istore_n 3, 1) := by decide +kernel
theorem dX1_playOn_4 : decode cX1_playOn 4 = .ok (.iload_n 3, 1) := by decide +kernel
theorem dX1_playOn_5 : decode cX1_playOn 5 = .ok (.aload_n 0, 1) := by decide +kernel
theorem dX1_playOn_6 : decode cX1_playOn 6 = .ok (.getfield 22, 3) := by decide +kernel
theorem dX1_playOn_9 : decode cX1_playOn 9 = .ok (.if_icmp .ge 37, 3) := by decide +kernel
theorem dX1_playOn_12 : decode cX1_playOn 12 = .ok (.aload_n 1, 1) := by decide +kernel
theorem dX1_playOn_13 : decode cX1_playOn 13 = .ok (.aload_n 0, 1) := by decide +kernel
theorem dX1_playOn_14 : decode cX1_playOn 14 = .ok (.getfield 9, 3) := by decide +kernel
theorem dX1_playOn_17 : decode cX1_playOn 17 = .ok (.iload_n 3, 1) := by decide +kernel
theorem dX1_playOn_18 : decode cX1_playOn 18 = .ok (.caload, 1) := by decide +kernel
theorem dX1_playOn_19 : decode cX1_playOn 19 = .ok (.aload_n 0, 1) := by decide +kernel
theorem dX1_playOn_20 : decode cX1_playOn 20 = .ok (.getfield 15, 3) := by decide +kernel
theorem dX1_playOn_23 : decode cX1_playOn 23 = .ok (.iload_n 3, 1) := by decide +kernel
theorem dX1_playOn_24 : decode cX1_playOn 24 = .ok (.iaload, 1) := by decide +kernel
theorem dX1_playOn_25 : decode cX1_playOn 25 = .ok (.aload_n 0, 1) := by decide +kernel
theorem dX1_playOn_26 : decode cX1_playOn 26 = .ok (.getfield 19, 3) := by decide +kernel
theorem dX1_playOn_29 : decode cX1_playOn 29 = .ok (.iload_n 3, 1) := by decide +kernel
theorem dX1_playOn_30 : decode cX1_playOn 30 = .ok (.iaload, 1) := by decide +kernel
theorem dX1_playOn_31 : decode cX1_playOn 31 = .ok (.invokevirtual 26, 3) := by decide +kernel
theorem dX1_playOn_34 : decode cX1_playOn 34 = .ok (.ifCond .eq 6, 3) := by decide +kernel
theorem dX1_playOn_37 : decode cX1_playOn 37 = .ok (.iinc 2 1, 3) := by decide +kernel
theorem dX1_playOn_40 : decode cX1_playOn 40 = .ok (.iinc 3 1, 3) := by decide +kernel
theorem dX1_playOn_43 : decode cX1_playOn 43 = .ok (.goto (-39), 3) := by decide +kernel
theorem dX1_playOn_46 : decode cX1_playOn 46 = .ok (.iload_n 2, 1) := by decide +kernel
theorem dX1_playOn_47 : decode cX1_playOn 47 = .ok (.ireturn, 1) := by decide +kernel
theorem dX1_addKeysTo_0 : decode cX1_addKeysTo 0 = .ok (.iconst 0, 1) := by decide +kernel
theorem dX1_addKeysTo_1 : decode cX1_addKeysTo 1 = .ok (.istore_n 2, 1) := by decide +kernel
theorem dX1_addKeysTo_2 : decode cX1_addKeysTo 2 = .ok (.iload_n 2, 1) := by decide +kernel
theorem dX1_addKeysTo_3 : decode cX1_addKeysTo 3 = .ok (.aload_n 0, 1) := by decide +kernel
theorem dX1_addKeysTo_4 : decode cX1_addKeysTo 4 = .ok (.getfield 22, 3) := by decide +kernel
theorem dX1_addKeysTo_7 : decode cX1_addKeysTo 7 = .ok (.if_icmp .ge 21, 3) := by decide +kernel
theorem dX1_addKeysTo_10 : decode cX1_addKeysTo 10 = .ok (.aload_n 1, 1) := by decide +kernel
theorem dX1_addKeysTo_11 : decode cX1_addKeysTo 11 = .ok (.aload_n 0, 1) := by decide +kernel
theorem dX1_addKeysTo_12 : decode cX1_addKeysTo 12 = .ok (.getfield 15, 3) := by decide +kernel
theorem dX1_addKeysTo_15 : decode cX1_addKeysTo 15 = .ok (.iload_n 2, 1) := by decide +kernel
theorem dX1_addKeysTo_16 : decode cX1_addKeysTo 16 = .ok (.iaload, 1) := by decide +kernel
theorem dX1_addKeysTo_17 : decode cX1_addKeysTo 17 = .ok (.iconst 0, 1) := by decide +kernel
theorem dX1_addKeysTo_18 : decode cX1_addKeysTo 18 = .ok (.invokevirtual 32, 3) := by decide +kernel
theorem dX1_addKeysTo_21 : decode cX1_addKeysTo 21 = .ok (.pop, 1) := by decide +kernel
theorem dX1_addKeysTo_22 : decode cX1_addKeysTo 22 = .ok (.iinc 2 1, 3) := by decide +kernel
theorem dX1_addKeysTo_25 : decode cX1_addKeysTo 25 = .ok (.goto (-23), 3) := by decide +kernel
theorem dX1_addKeysTo_28 : decode cX1_addKeysTo 28 = .ok (.return_, 1) := by decide +kernel
theorem dX1_addTo_0 : decode cX1_addTo 0 = .ok (.lload_n 1, 1) := by decide +kernel
theorem dX1_addTo_1 : decode cX1_addTo 1 = .ok (.aload_n 0, 1) := by decide +kernel
theorem dX1_addTo_2 : decode cX1_addTo 2 = .ok (.getfield 22, 3) := by decide +kernel
theorem dX1_addTo_5 : decode cX1_addTo 5 = .ok (.invokestatic 36, 3) := by decide +kernel
theorem dX1_addTo_8 : decode cX1_addTo 8 = .ok (.lstore_n 1, 1) := by decide +kernel
theorem dX1_addTo_9 : decode cX1_addTo 9 = .ok (.iconst 0, 1) := by decide +kernel
theorem dX1_addTo_10 : decode cX1_addTo 10 = .ok (.istore_n 3, 1) := by decide +kernel
theorem dX1_addTo_11 : decode cX1_addTo 11 = .ok (.iload_n 3, 1) := by decide +kernel
theorem dX1_addTo_12 : decode cX1_addTo 12 = .ok (.aload_n 0, 1) := by decide +kernel
theorem dX1_addTo_13 : decode cX1_addTo 13 = .ok (.getfield 22, 3) := by decide +kernel
theorem dX1_addTo_16 : decode cX1_addTo 16 = .ok (.if_icmp .ge 38, 3) := by decide +kernel
theorem dX1_addTo_19 : decode cX1_addTo 19 = .ok (.lload_n 1, 1) := by decide +kernel
theorem dX1_addTo_20 : decode cX1_addTo 20 = .ok (.aload_n 0, 1) := by decide +kernel
theorem dX1_addTo_21 : decode cX1_addTo 21 = .ok (.getfield 9, 3) := by decide +kernel
theorem dX1_addTo_24 : decode cX1_addTo 24 = .ok (.iload_n 3, 1) := by decide +kernel
theorem dX1_addTo_25 : decode cX1_addTo 25 = .ok (.caload, 1) := by decide +kernel
theorem dX1_addTo_26 : decode cX1_addTo 26 = .ok (.invokestatic 36, 3) := by decide +kernel
theorem dX1_addTo_29 : decode cX1_addTo 29 = .ok (.aload_n 0, 1) := by decide +kernel
theorem dX1_addTo_30 : decode cX1_addTo 30 = .ok (.getfield 15, 3) := by decide +kernel
theorem dX1_addTo_33 : decode cX1_addTo 33 = .ok (.iload_n 3, 1) := by decide +kernel
theorem dX1_addTo_34 : decode cX1_addTo 34 = .ok (.iaload, 1) := by decide +kernel
theorem dX1_addTo_35 : decode cX1_addTo 35 = .ok (.invokestatic 36, 3) := by decide +kernel
theorem dX1_addTo_38 : decode cX1_addTo 38 = .ok (.aload_n 0, 1) := by decide +kernel
theorem dX1_addTo_39 : decode cX1_addTo 39 = .ok (.getfield 19, 3) := by decide +kernel
theorem dX1_addTo_42 : decode cX1_addTo 42 = .ok (.iload_n 3, 1) := by decide +kernel
theorem dX1_addTo_43 : decode cX1_addTo 43 = .ok (.iaload, 1) := by decide +kernel
theorem dX1_addTo_44 : decode cX1_addTo 44 = .ok (.invokestatic 36, 3) := by decide +kernel
theorem dX1_addTo_47 : decode cX1_addTo 47 = .ok (.lstore_n 1, 1) := by decide +kernel
theorem dX1_addTo_48 : decode cX1_addTo 48 = .ok (.iinc 3 1, 3) := by decide +kernel
theorem dX1_addTo_51 : decode cX1_addTo 51 = .ok (.goto (-40), 3) := by decide +kernel
theorem dX1_addTo_54 : decode cX1_addTo 54 = .ok (.lload_n 1, 1) := by decide +kernel
theorem dX1_addTo_55 : decode cX1_addTo 55 = .ok (.lreturn, 1) := by decide +kernel
