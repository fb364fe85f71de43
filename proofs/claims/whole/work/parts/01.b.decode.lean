theorem dX0_init_0 : decode cX0_init 0 = .ok (.aload_n 0, 1) := by decide +kernel
theorem dX0_init_1 : decode cX0_init 1 = .ok (.invokespecial 1, 3) := by decide +kernel
theorem dX0_init_4 : decode cX0_init 4 = .ok (.aload_n 0, 1) := by decide +kernel
theorem dX0_init_5 : decode cX0_init 5 = .ok (.iconst 4, 1) := by decide +kernel
theorem dX0_init_6 : decode cX0_init 6 = .ok (.newarray .int, 2) := by decide +kernel
theorem dX0_init_8 : decode cX0_init 8 = .ok (.putfield 9, 3) := by decide +kernel
theorem dX0_init_11 : decode cX0_init 11 = .ok (.aload_n 0, 1) := by decide +kernel
theorem dX0_init_12 : decode cX0_init 12 = .ok (.getfield 9, 3) := by decide +kernel
theorem dX0_init_15 : decode cX0_init 15 = .ok (.bipush 50, 2) := by decide +kernel
theorem dX0_init_17 : decode cX0_init 17 = .ok (.invokestatic 13, 3) := by decide +kernel
theorem dX0_init_20 : decode cX0_init 20 = .ok (.aload_n 0, 1) := by decide +kernel
theorem dX0_init_21 : decode cX0_init 21 = .ok (.bipush 9, 2) := by decide +kernel
theorem dX0_init_23 : decode cX0_init 23 = .ok (.newarray .long, 2) := by decide +kernel
theorem dX0_init_25 : decode cX0_init 25 = .ok (.putfield 19, 3) := by decide +kernel
theorem dX0_init_28 : decode cX0_init 28 = .ok (.return_, 1) := by decide +kernel
theorem dX0_isKind_0 : decode cX0_isKind 0 = .ok (.iload_n 0, 1) := by decide +kernel
theorem dX0_isKind_1 : decode cX0_isKind 1 = .ok (.iconst 0, 1) := by decide +kernel
theorem dX0_isKind_2 : decode cX0_isKind 2 = .ok (.iconst 3, 1) := by decide +kernel
theorem dX0_isKind_3 : decode cX0_isKind 3 = .ok (.invokestatic 23, 3) := by decide +kernel
theorem dX0_isKind_6 : decode cX0_isKind 6 = .ok (.ireturn, 1) := by decide +kernel
theorem dX0_isGroup_0 : decode cX0_isGroup 0 = .ok (.iload_n 0, 1) := by decide +kernel
theorem dX0_isGroup_1 : decode cX0_isGroup 1 = .ok (.iconst 1, 1) := by decide +kernel
theorem dX0_isGroup_2 : decode cX0_isGroup 2 = .ok (.bipush 8, 2) := by decide +kernel
theorem dX0_isGroup_4 : decode cX0_isGroup 4 = .ok (.invokestatic 23, 3) := by decide +kernel
theorem dX0_isGroup_7 : decode cX0_isGroup 7 = .ok (.ifCond .eq 19, 3) := by decide +kernel
theorem dX0_isGroup_10 : decode cX0_isGroup 10 = .ok (.iload_n 1, 1) := by decide +kernel
theorem dX0_isGroup_11 : decode cX0_isGroup 11 = .ok (.ifCond .lt 15, 3) := by decide +kernel
theorem dX0_isGroup_14 : decode cX0_isGroup 14 = .ok (.iload_n 1, 1) := by decide +kernel
theorem dX0_isGroup_15 : decode cX0_isGroup 15 = .ok (.iconst 2, 1) := by decide +kernel
theorem dX0_isGroup_16 : decode cX0_isGroup 16 = .ok (.iload_n 0, 1) := by decide +kernel
theorem dX0_isGroup_17 : decode cX0_isGroup 17 = .ok (.imul, 1) := by decide +kernel
theorem dX0_isGroup_18 : decode cX0_isGroup 18 = .ok (.ishr, 1) := by decide +kernel
theorem dX0_isGroup_19 : decode cX0_isGroup 19 = .ok (.ifCond .ne 7, 3) := by decide +kernel
theorem dX0_isGroup_22 : decode cX0_isGroup 22 = .ok (.iconst 1, 1) := by decide +kernel
theorem dX0_isGroup_23 : decode cX0_isGroup 23 = .ok (.goto 4, 3) := by decide +kernel
theorem dX0_isGroup_26 : decode cX0_isGroup 26 = .ok (.iconst 0, 1) := by decide +kernel
theorem dX0_isGroup_27 : decode cX0_isGroup 27 = .ok (.ireturn, 1) := by decide +kernel
theorem dX0_isRate_0 : decode cX0_isRate 0 = .ok (.iload_n 0, 1) := by decide +kernel
theorem dX0_isRate_1 : decode cX0_isRate 1 = .ok (.iconst 1, 1) := by decide +kernel
theorem dX0_isRate_2 : decode cX0_isRate 2 = .ok (.bipush 99, 2) := by decide +kernel
theorem dX0_isRate_4 : decode cX0_isRate 4 = .ok (.invokestatic 23, 3) := by decide +kernel
theorem dX0_isRate_7 : decode cX0_isRate 7 = .ok (.ireturn, 1) := by decide +kernel
theorem dX0_setPercent_0 : decode cX0_setPercent 0 = .ok (.iload_n 1, 1) := by decide +kernel
theorem dX0_setPercent_1 : decode cX0_setPercent 1 = .ok (.invokestatic 29, 3) := by decide +kernel
theorem dX0_setPercent_4 : decode cX0_setPercent 4 = .ok (.ifCond .eq 13, 3) := by decide +kernel
theorem dX0_setPercent_7 : decode cX0_setPercent 7 = .ok (.iload_n 2, 1) := by decide +kernel
theorem dX0_setPercent_8 : decode cX0_setPercent 8 = .ok (.iconst 0, 1) := by decide +kernel
theorem dX0_setPercent_9 : decode cX0_setPercent 9 = .ok (.bipush 100, 2) := by decide +kernel
theorem dX0_setPercent_11 : decode cX0_setPercent 11 = .ok (.invokestatic 23, 3) := by decide +kernel
theorem dX0_setPercent_14 : decode cX0_setPercent 14 = .ok (.ifCond .ne 5, 3) := by decide +kernel
theorem dX0_setPercent_17 : decode cX0_setPercent 17 = .ok (.iconst 0, 1) := by decide +kernel
theorem dX0_setPercent_18 : decode cX0_setPercent 18 = .ok (.ireturn, 1) := by decide +kernel
theorem dX0_setPercent_19 : decode cX0_setPercent 19 = .ok (.aload_n 0, 1) := by decide +kernel
theorem dX0_setPercent_20 : decode cX0_setPercent 20 = .ok (.getfield 9, 3) := by decide +kernel
theorem dX0_setPercent_23 : decode cX0_setPercent 23 = .ok (.iload_n 1, 1) := by decide +kernel
theorem dX0_setPercent_24 : decode cX0_setPercent 24 = .ok (.iload_n 2, 1) := by decide +kernel
theorem dX0_setPercent_25 : decode cX0_setPercent 25 = .ok (.iastore, 1) := by decide +kernel
theorem dX0_setPercent_26 : decode cX0_setPercent 26 = .ok (.iconst 1, 1) := by decide +kernel
theorem dX0_setPercent_27 : decode cX0_setPercent 27 = .ok (.ireturn, 1) := by decide +kernel
theorem dX0_countWays_0 : decode cX0_countWays 0 = .ok (.aload_n 0, 1) := by decide +kernel
theorem dX0_countWays_1 : decode cX0_countWays 1 = .ok (.getfield 19, 3) := by decide +kernel
theorem dX0_countWays_4 : decode cX0_countWays 4 = .ok (.lconst 0, 1) := by decide +kernel
theorem dX0_countWays_5 : decode cX0_countWays 5 = .ok (.invokestatic 33, 3) := by decide +kernel
theorem dX0_countWays_8 : decode cX0_countWays 8 = .ok (.aload_n 0, 1) := by decide +kernel
theorem dX0_countWays_9 : decode cX0_countWays 9 = .ok (.getfield 19, 3) := by decide +kernel
theorem dX0_countWays_12 : decode cX0_countWays 12 = .ok (.iconst 0, 1) := by decide +kernel
theorem dX0_countWays_13 : decode cX0_countWays 13 = .ok (.lconst 1, 1) := by decide +kernel
theorem dX0_countWays_14 : decode cX0_countWays 14 = .ok (.lastore, 1) := by decide +kernel
theorem dX0_countWays_15 : decode cX0_countWays 15 = .ok (.iconst 0, 1) := by decide +kernel
theorem dX0_countWays_16 : decode cX0_countWays 16 = .ok (.istore_n 3, 1) := by decide +kernel
theorem dX0_countWays_17 : decode cX0_countWays 17 = .ok (.iload_n 3, 1) := by decide +kernel
theorem dX0_countWays_18 : decode cX0_countWays 18 = .ok (.iload_n 1, 1) := by decide +kernel
theorem dX0_countWays_19 : decode cX0_countWays 19 = .ok (.if_icmp .ge 31, 3) := by decide +kernel
theorem dX0_countWays_22 : decode cX0_countWays 22 = .ok (.iload_n 3, 1) := by decide +kernel
theorem dX0_countWays_23 : decode cX0_countWays 23 = .ok (.bipush 8, 2) := by decide +kernel
theorem dX0_countWays_25 : decode cX0_countWays 25 = .ok (.if_icmp .ge 25, 3) := by decide +kernel
theorem dX0_countWays_28 : decode cX0_countWays 28 = .ok (.aload_n 0, 1) := by decide +kernel
theorem dX0_countWays_29 : decode cX0_countWays 29 = .ok (.aload_n 0, 1) := by decide +kernel
theorem dX0_countWays_30 : decode cX0_countWays 30 = .ok (.getfield 9, 3) := by decide +kernel
theorem dX0_countWays_33 : decode cX0_countWays 33 = .ok (.iload_n 2, 1) := by decide +kernel
theorem dX0_countWays_34 : decode cX0_countWays 34 = .ok (.iconst 2, 1) := by decide +kernel
theorem dX0_countWays_35 : decode cX0_countWays 35 = .ok (.iload_n 3, 1) := by decide +kernel
theorem dX0_countWays_36 : decode cX0_countWays 36 = .ok (.imul, 1) := by decide +kernel
theorem dX0_countWays_37 : decode cX0_countWays 37 = .ok (.ishr, 1) := by decide +kernel
theorem dX0_countWays_38 : decode cX0_countWays 38 = .ok (.iconst 3, 1) := by decide +kernel
theorem dX0_countWays_39 : decode cX0_countWays 39 = .ok (.iand, 1) := by decide +kernel
theorem dX0_countWays_40 : decode cX0_countWays 40 = .ok (.iaload, 1) := by decide +kernel
theorem dX0_countWays_41 : decode cX0_countWays 41 = .ok (.invokevirtual 36, 3) := by decide +kernel
theorem dX0_countWays_44 : decode cX0_countWays 44 = .ok (.iinc 3 1, 3) := by decide +kernel
theorem dX0_countWays_47 : decode cX0_countWays 47 = .ok (.goto (-30), 3) := by decide +kernel
theorem dX0_countWays_50 : decode cX0_countWays 50 = .ok (.return_, 1) := by decide +kernel
theorem dX0_addOne_0 : decode cX0_addOne 0 = .ok (.bipush 100, 2) := by decide +kernel
theorem dX0_addOne_2 : decode cX0_addOne 2 = .ok (.iload_n 1, 1) := by decide +kernel
theorem dX0_addOne_3 : decode cX0_addOne 3 = .ok (.isub, 1) := by decide +kernel
theorem dX0_addOne_4 : decode cX0_addOne 4 = .ok (.istore_n 2, 1) := by decide +kernel
theorem dX0_addOne_5 : decode cX0_addOne 5 = .ok (.bipush 8, 2) := by decide +kernel
theorem dX0_addOne_7 : decode cX0_addOne 7 = .ok (.istore_n 3, 1) := by decide +kernel
theorem dX0_addOne_8 : decode cX0_addOne 8 = .ok (.iload_n 3, 1) := by decide +kernel
theorem dX0_addOne_9 : decode cX0_addOne 9 = .ok (.ifCond .le 36, 3) := by decide +kernel
theorem dX0_addOne_12 : decode cX0_addOne 12 = .ok (.aload_n 0, 1) := by decide +kernel
theorem dX0_addOne_13 : decode cX0_addOne 13 = .ok (.getfield 19, 3) := by decide +kernel
theorem dX0_addOne_16 : decode cX0_addOne 16 = .ok (.iload_n 3, 1) := by decide +kernel
theorem dX0_addOne_17 : decode cX0_addOne 17 = .ok (.aload_n 0, 1) := by decide +kernel
theorem dX0_addOne_18 : decode cX0_addOne 18 = .ok (.getfield 19, 3) := by decide +kernel
theorem dX0_addOne_21 : decode cX0_addOne 21 = .ok (.iload_n 3, 1) := by decide +kernel
theorem dX0_addOne_22 : decode cX0_addOne 22 = .ok (.laload, 1) := by decide +kernel
theorem dX0_addOne_23 : decode cX0_addOne 23 = .ok (.iload_n 2, 1) := by decide +kernel
theorem dX0_addOne_24 : decode cX0_addOne 24 = .ok (.i2l, 1) := by decide +kernel
theorem dX0_addOne_25 : decode cX0_addOne 25 = .ok (.lmul, 1) := by decide +kernel
theorem dX0_addOne_26 : decode cX0_addOne 26 = .ok (.aload_n 0, 1) := by decide +kernel
theorem dX0_addOne_27 : decode cX0_addOne 27 = .ok (.getfield 19, 3) := by decide +kernel
theorem dX0_addOne_30 : decode cX0_addOne 30 = .ok (.iload_n 3, 1) := by decide +kernel
theorem dX0_addOne_31 : decode cX0_addOne 31 = .ok (.iconst 1, 1) := by decide +kernel
theorem dX0_addOne_32 : decode cX0_addOne 32 = .ok (.isub, 1) := by decide +kernel
theorem dX0_addOne_33 : decode cX0_addOne 33 = .ok (.laload, 1) := by decide +kernel
theorem dX0_addOne_34 : decode cX0_addOne 34 = .ok (.iload_n 1, 1) := by decide +kernel
theorem dX0_addOne_35 : decode cX0_addOne 35 = .ok (.i2l, 1) := by decide +kernel
theorem dX0_addOne_36 : decode cX0_addOne 36 = .ok (.lmul, 1) := by decide +kernel
theorem dX0_addOne_37 : decode cX0_addOne 37 = .ok (.ladd, 1) := by decide +kernel
theorem dX0_addOne_38 : decode cX0_addOne 38 = .ok (.lastore, 1) := by decide +kernel
theorem dX0_addOne_39 : decode cX0_addOne 39 = .ok (.iinc 3 (-1), 3) := by decide +kernel
theorem dX0_addOne_42 : decode cX0_addOne 42 = .ok (.goto (-34), 3) := by decide +kernel
theorem dX0_addOne_45 : decode cX0_addOne 45 = .ok (.aload_n 0, 1) := by decide +kernel
theorem dX0_addOne_46 : decode cX0_addOne 46 = .ok (.getfield 19, 3) := by decide +kernel
theorem dX0_addOne_49 : decode cX0_addOne 49 = .ok (.iconst 0, 1) := by decide +kernel
theorem dX0_addOne_50 : decode cX0_addOne 50 = .ok (.dup2, 1) := by decide +kernel
theorem dX0_addOne_51 : decode cX0_addOne 51 = .ok (.laload, 1) := by decide +kernel
theorem dX0_addOne_52 : decode cX0_addOne 52 = .ok (.iload_n 2, 1) := by decide +kernel
theorem dX0_addOne_53 : decode cX0_addOne 53 = .ok (.i2l, 1) := by decide +kernel
theorem dX0_addOne_54 : decode cX0_addOne 54 = .ok (.lmul, 1) := by decide +kernel
theorem dX0_addOne_55 : decode cX0_addOne 55 = .ok (.lastore, 1) := by decide +kernel
theorem dX0_addOne_56 : decode cX0_addOne 56 = .ok (.return_, 1) := by decide +kernel
theorem dX0_waysOf_0 : decode cX0_waysOf 0 = .ok (.iload_n 1, 1) := by decide +kernel
theorem dX0_waysOf_1 : decode cX0_waysOf 1 = .ok (.iconst 0, 1) := by decide +kernel
theorem dX0_waysOf_2 : decode cX0_waysOf 2 = .ok (.bipush 8, 2) := by decide +kernel
theorem dX0_waysOf_4 : decode cX0_waysOf 4 = .ok (.invokestatic 23, 3) := by decide +kernel
theorem dX0_waysOf_7 : decode cX0_waysOf 7 = .ok (.ifCond .eq 12, 3) := by decide +kernel
theorem dX0_waysOf_10 : decode cX0_waysOf 10 = .ok (.aload_n 0, 1) := by decide +kernel
theorem dX0_waysOf_11 : decode cX0_waysOf 11 = .ok (.getfield 19, 3) := by decide +kernel
theorem dX0_waysOf_14 : decode cX0_waysOf 14 = .ok (.iload_n 1, 1) := by decide +kernel
theorem dX0_waysOf_15 : decode cX0_waysOf 15 = .ok (.laload, 1) := by decide +kernel
theorem dX0_waysOf_16 : decode cX0_waysOf 16 = .ok (.goto 4, 3) := by decide +kernel
theorem dX0_waysOf_19 : decode cX0_waysOf 19 = .ok (.lconst 0, 1) := by decide +kernel
theorem dX0_waysOf_20 : decode cX0_waysOf 20 = .ok (.lreturn, 1) := by decide +kernel
theorem dX0_cheapestPrint_0 : decode cX0_cheapestPrint 0 = .ok (.iconst 0, 1) := by decide +kernel
theorem dX0_cheapestPrint_1 : decode cX0_cheapestPrint 1 = .ok (.istore 4, 2) := by decide +kernel
theorem dX0_cheapestPrint_3 : decode cX0_cheapestPrint 3 = .ok (.aload_n 0, 1) := by decide +kernel
theorem dX0_cheapestPrint_4 : decode cX0_cheapestPrint 4 = .ok (.iconst 0, 1) := by decide +kernel
theorem dX0_cheapestPrint_5 : decode cX0_cheapestPrint 5 = .ok (.iload_n 1, 1) := by decide +kernel
theorem dX0_cheapestPrint_6 : decode cX0_cheapestPrint 6 = .ok (.iload_n 2, 1) := by decide +kernel
theorem dX0_cheapestPrint_7 : decode cX0_cheapestPrint 7 = .ok (.iload_n 3, 1) := by decide +kernel
theorem dX0_cheapestPrint_8 : decode cX0_cheapestPrint 8 = .ok (.invokevirtual 40, 3) := by decide +kernel
theorem dX0_cheapestPrint_11 : decode cX0_cheapestPrint 11 = .ok (.lstore 5, 2) := by decide +kernel
theorem dX0_cheapestPrint_13 : decode cX0_cheapestPrint 13 = .ok (.iconst 1, 1) := by decide +kernel
theorem dX0_cheapestPrint_14 : decode cX0_cheapestPrint 14 = .ok (.istore 7, 2) := by decide +kernel
theorem dX0_cheapestPrint_16 : decode cX0_cheapestPrint 16 = .ok (.iload 7, 2) := by decide +kernel
theorem dX0_cheapestPrint_18 : decode cX0_cheapestPrint 18 = .ok (.iload_n 1, 1) := by decide +kernel
theorem dX0_cheapestPrint_19 : decode cX0_cheapestPrint 19 = .ok (.if_icmp .gt 43, 3) := by decide +kernel
theorem dX0_cheapestPrint_22 : decode cX0_cheapestPrint 22 = .ok (.iload 7, 2) := by decide +kernel
theorem dX0_cheapestPrint_24 : decode cX0_cheapestPrint 24 = .ok (.bipush 8, 2) := by decide +kernel
theorem dX0_cheapestPrint_26 : decode cX0_cheapestPrint 26 = .ok (.if_icmp .gt 36, 3) := by decide +kernel
theorem dX0_cheapestPrint_29 : decode cX0_cheapestPrint 29 = .ok (.aload_n 0, 1) := by decide +kernel
theorem dX0_cheapestPrint_30 : decode cX0_cheapestPrint 30 = .ok (.iload 7, 2) := by decide +kernel
theorem dX0_cheapestPrint_32 : decode cX0_cheapestPrint 32 = .ok (.iload_n 1, 1) := by decide +kernel
theorem dX0_cheapestPrint_33 : decode cX0_cheapestPrint 33 = .ok (.iload_n 2, 1) := by decide +kernel
theorem dX0_cheapestPrint_34 : decode cX0_cheapestPrint 34 = .ok (.iload_n 3, 1) := by decide +kernel
theorem dX0_cheapestPrint_35 : decode cX0_cheapestPrint 35 = .ok (.invokevirtual 40, 3) := by decide +kernel
theorem dX0_cheapestPrint_38 : decode cX0_cheapestPrint 38 = .ok (.lstore 8, 2) := by decide +kernel
theorem dX0_cheapestPrint_40 : decode cX0_cheapestPrint 40 = .ok (.lload 8, 2) := by decide +kernel
theorem dX0_cheapestPrint_42 : decode cX0_cheapestPrint 42 = .ok (.lload 5, 2) := by decide +kernel
theorem dX0_cheapestPrint_44 : decode cX0_cheapestPrint 44 = .ok (.lcmp, 1) := by decide +kernel
theorem dX0_cheapestPrint_45 : decode cX0_cheapestPrint 45 = .ok (.ifCond .ge 11, 3) := by decide +kernel
theorem dX0_cheapestPrint_48 : decode cX0_cheapestPrint 48 = .ok (.lload 8, 2) := by decide +kernel
theorem dX0_cheapestPrint_50 : decode cX0_cheapestPrint 50 = .ok (.lstore 5, 2) := by decide +kernel
theorem dX0_cheapestPrint_52 : decode cX0_cheapestPrint 52 = .ok (.iload 7, 2) := by decide +kernel
theorem dX0_cheapestPrint_54 : decode cX0_cheapestPrint 54 = .ok (.istore 4, 2) := by decide +kernel
theorem dX0_cheapestPrint_56 : decode cX0_cheapestPrint 56 = .ok (.iinc 7 1, 3) := by decide +kernel
theorem dX0_cheapestPrint_59 : decode cX0_cheapestPrint 59 = .ok (.goto (-43), 3) := by decide +kernel
theorem dX0_cheapestPrint_62 : decode cX0_cheapestPrint 62 = .ok (.iload 4, 2) := by decide +kernel
theorem dX0_cheapestPrint_64 : decode cX0_cheapestPrint 64 = .ok (.ireturn, 1) := by decide +kernel
theorem dX0_costOf_0 : decode cX0_costOf 0 = .ok (.lconst 0, 1) := by decide +kernel
theorem dX0_costOf_1 : decode cX0_costOf 1 = .ok (.lstore 5, 2) := by decide +kernel
theorem dX0_costOf_3 : decode cX0_costOf 3 = .ok (.iconst 0, 1) := by decide +kernel
theorem dX0_costOf_4 : decode cX0_costOf 4 = .ok (.istore 7, 2) := by decide +kernel
theorem dX0_costOf_6 : decode cX0_costOf 6 = .ok (.iload 7, 2) := by decide +kernel
theorem dX0_costOf_8 : decode cX0_costOf 8 = .ok (.iload_n 2, 1) := by decide +kernel
theorem dX0_costOf_9 : decode cX0_costOf 9 = .ok (.if_icmp .gt 56, 3) := by decide +kernel
theorem dX0_costOf_12 : decode cX0_costOf 12 = .ok (.iload 7, 2) := by decide +kernel
theorem dX0_costOf_14 : decode cX0_costOf 14 = .ok (.bipush 8, 2) := by decide +kernel
theorem dX0_costOf_16 : decode cX0_costOf 16 = .ok (.if_icmp .gt 49, 3) := by decide +kernel
theorem dX0_costOf_19 : decode cX0_costOf 19 = .ok (.iload 7, 2) := by decide +kernel
theorem dX0_costOf_21 : decode cX0_costOf 21 = .ok (.iload_n 1, 1) := by decide +kernel
theorem dX0_costOf_22 : decode cX0_costOf 22 = .ok (.if_icmp .ge 12, 3) := by decide +kernel
theorem dX0_costOf_25 : decode cX0_costOf 25 = .ok (.iload_n 1, 1) := by decide +kernel
theorem dX0_costOf_26 : decode cX0_costOf 26 = .ok (.iload 7, 2) := by decide +kernel
theorem dX0_costOf_28 : decode cX0_costOf 28 = .ok (.isub, 1) := by decide +kernel
theorem dX0_costOf_29 : decode cX0_costOf 29 = .ok (.iload_n 3, 1) := by decide +kernel
theorem dX0_costOf_30 : decode cX0_costOf 30 = .ok (.imul, 1) := by decide +kernel
theorem dX0_costOf_31 : decode cX0_costOf 31 = .ok (.goto 10, 3) := by decide +kernel
theorem dX0_costOf_34 : decode cX0_costOf 34 = .ok (.iload 7, 2) := by decide +kernel
theorem dX0_costOf_36 : decode cX0_costOf 36 = .ok (.iload_n 1, 1) := by decide +kernel
theorem dX0_costOf_37 : decode cX0_costOf 37 = .ok (.isub, 1) := by decide +kernel
theorem dX0_costOf_38 : decode cX0_costOf 38 = .ok (.iload 4, 2) := by decide +kernel
theorem dX0_costOf_40 : decode cX0_costOf 40 = .ok (.imul, 1) := by decide +kernel
theorem dX0_costOf_41 : decode cX0_costOf 41 = .ok (.istore 8, 2) := by decide +kernel
theorem dX0_costOf_43 : decode cX0_costOf 43 = .ok (.lload 5, 2) := by decide +kernel
theorem dX0_costOf_45 : decode cX0_costOf 45 = .ok (.aload_n 0, 1) := by decide +kernel
theorem dX0_costOf_46 : decode cX0_costOf 46 = .ok (.getfield 19, 3) := by decide +kernel
theorem dX0_costOf_49 : decode cX0_costOf 49 = .ok (.iload 7, 2) := by decide +kernel
theorem dX0_costOf_51 : decode cX0_costOf 51 = .ok (.laload, 1) := by decide +kernel
theorem dX0_costOf_52 : decode cX0_costOf 52 = .ok (.iload 8, 2) := by decide +kernel
theorem dX0_costOf_54 : decode cX0_costOf 54 = .ok (.i2l, 1) := by decide +kernel
theorem dX0_costOf_55 : decode cX0_costOf 55 = .ok (.lmul, 1) := by decide +kernel
theorem dX0_costOf_56 : decode cX0_costOf 56 = .ok (.ladd, 1) := by decide +kernel
theorem dX0_costOf_57 : decode cX0_costOf 57 = .ok (.lstore 5, 2) := by decide +kernel
theorem dX0_costOf_59 : decode cX0_costOf 59 = .ok (.iinc 7 1, 3) := by decide +kernel
theorem dX0_costOf_62 : decode cX0_costOf 62 = .ok (.goto (-56), 3) := by decide +kernel
theorem dX0_costOf_65 : decode cX0_costOf 65 = .ok (.lload 5, 2) := by decide +kernel
theorem dX0_costOf_67 : decode cX0_costOf 67 = .ok (.lreturn, 1) := by decide +kernel
theorem dX1_init_0 : decode cX1_init 0 = .ok (.aload_n 0, 1) := by decide +kernel
theorem dX1_init_1 : decode cX1_init 1 = .ok (.invokespecial 3, 3) := by decide +kernel
theorem dX1_init_4 : decode cX1_init 4 = .ok (.return_, 1) := by decide +kernel
theorem dX1_tell_0 : decode cX1_tell 0 = .ok (.iload_n 1, 1) := by decide +kernel
theorem dX1_tell_1 : decode cX1_tell 1 = .ok (.iconst 0, 1) := by decide +kernel
theorem dX1_tell_2 : decode cX1_tell 2 = .ok (.sipush 5000, 3) := by decide +kernel
theorem dX1_tell_5 : decode cX1_tell 5 = .ok (.invokestatic 11, 3) := by decide +kernel
theorem dX1_tell_8 : decode cX1_tell 8 = .ok (.ifCond .eq 26, 3) := by decide +kernel
theorem dX1_tell_11 : decode cX1_tell 11 = .ok (.iload_n 2, 1) := by decide +kernel
theorem dX1_tell_12 : decode cX1_tell 12 = .ok (.iconst 0, 1) := by decide +kernel
theorem dX1_tell_13 : decode cX1_tell 13 = .ok (.sipush 1000, 3) := by decide +kernel
theorem dX1_tell_16 : decode cX1_tell 16 = .ok (.invokestatic 11, 3) := by decide +kernel
theorem dX1_tell_19 : decode cX1_tell 19 = .ok (.ifCond .eq 15, 3) := by decide +kernel
theorem dX1_tell_22 : decode cX1_tell 22 = .ok (.aload_n 0, 1) := by decide +kernel
theorem dX1_tell_23 : decode cX1_tell 23 = .ok (.getfield 15, 3) := by decide +kernel
theorem dX1_tell_26 : decode cX1_tell 26 = .ok (.iload_n 2, 1) := by decide +kernel
theorem dX1_tell_27 : decode cX1_tell 27 = .ok (.iadd, 1) := by decide +kernel
theorem dX1_tell_28 : decode cX1_tell 28 = .ok (.sipush 5000, 3) := by decide +kernel
theorem dX1_tell_31 : decode cX1_tell 31 = .ok (.if_icmp .le 5, 3) := by decide +kernel
theorem dX1_tell_34 : decode cX1_tell 34 = .ok (.iconst (-1), 1) := by decide +kernel
theorem dX1_tell_35 : decode cX1_tell 35 = .ok (.ireturn, 1) := by decide +kernel
theorem dX1_tell_36 : decode cX1_tell 36 = .ok (.aload_n 0, 1) := by decide +kernel
theorem dX1_tell_37 : decode cX1_tell 37 = .ok (.iload_n 1, 1) := by decide +kernel
theorem dX1_tell_38 : decode cX1_tell 38 = .ok (.putfield 19, 3) := by decide +kernel
theorem dX1_tell_41 : decode cX1_tell 41 = .ok (.aload_n 0, 1) := by decide +kernel
theorem dX1_tell_42 : decode cX1_tell 42 = .ok (.dup, 1) := by decide +kernel
theorem dX1_tell_43 : decode cX1_tell 43 = .ok (.getfield 15, 3) := by decide +kernel
theorem dX1_tell_46 : decode cX1_tell 46 = .ok (.iload_n 2, 1) := by decide +kernel
theorem dX1_tell_47 : decode cX1_tell 47 = .ok (.iadd, 1) := by decide +kernel
theorem dX1_tell_48 : decode cX1_tell 48 = .ok (.putfield 15, 3) := by decide +kernel
theorem dX1_tell_51 : decode cX1_tell 51 = .ok (.aload_n 0, 1) := by decide +kernel
theorem dX1_tell_52 : decode cX1_tell 52 = .ok (.dup, 1) := by decide +kernel
theorem dX1_tell_53 : decode cX1_tell 53 = .ok (.getfield 22, 3) := by decide +kernel
theorem dX1_tell_56 : decode cX1_tell 56 = .ok (.iload_n 2, 1) := by decide +kernel
theorem dX1_tell_57 : decode cX1_tell 57 = .ok (.iadd, 1) := by decide +kernel
theorem dX1_tell_58 : decode cX1_tell 58 = .ok (.putfield 22, 3) := by decide +kernel
theorem dX1_tell_61 : decode cX1_tell 61 = .ok (.aload_n 0, 1) := by decide +kernel
theorem dX1_tell_62 : decode cX1_tell 62 = .ok (.getfield 22, 3) := by decide +kernel
theorem dX1_tell_65 : decode cX1_tell 65 = .ok (.ireturn, 1) := by decide +kernel
theorem dX1_dispose_0 : decode cX1_dispose 0 = .ok (.iload_n 1, 1) := by decide +kernel
theorem dX1_dispose_1 : decode cX1_dispose 1 = .ok (.iconst 0, 1) := by decide +kernel
theorem dX1_dispose_2 : decode cX1_dispose 2 = .ok (.iconst 1, 1) := by decide +kernel
theorem dX1_dispose_3 : decode cX1_dispose 3 = .ok (.invokestatic 11, 3) := by decide +kernel
theorem dX1_dispose_6 : decode cX1_dispose 6 = .ok (.ifCond .eq 15, 3) := by decide +kernel
theorem dX1_dispose_9 : decode cX1_dispose 9 = .ok (.iload_n 2, 1) := by decide +kernel
theorem dX1_dispose_10 : decode cX1_dispose 10 = .ok (.iconst 0, 1) := by decide +kernel
theorem dX1_dispose_11 : decode cX1_dispose 11 = .ok (.aload_n 0, 1) := by decide +kernel
theorem dX1_dispose_12 : decode cX1_dispose 12 = .ok (.getfield 22, 3) := by decide +kernel
theorem dX1_dispose_15 : decode cX1_dispose 15 = .ok (.invokestatic 11, 3) := by decide +kernel
theorem dX1_dispose_18 : decode cX1_dispose 18 = .ok (.ifCond .ne 5, 3) := by decide +kernel
theorem dX1_dispose_21 : decode cX1_dispose 21 = .ok (.iconst (-1), 1) := by decide +kernel
theorem dX1_dispose_22 : decode cX1_dispose 22 = .ok (.ireturn, 1) := by decide +kernel
theorem dX1_dispose_23 : decode cX1_dispose 23 = .ok (.iload_n 1, 1) := by decide +kernel
theorem dX1_dispose_24 : decode cX1_dispose 24 = .ok (.ifCond .ne 16, 3) := by decide +kernel
theorem dX1_dispose_27 : decode cX1_dispose 27 = .ok (.aload_n 0, 1) := by decide +kernel
theorem dX1_dispose_28 : decode cX1_dispose 28 = .ok (.dup, 1) := by decide +kernel
theorem dX1_dispose_29 : decode cX1_dispose 29 = .ok (.getfield 25, 3) := by decide +kernel
theorem dX1_dispose_32 : decode cX1_dispose 32 = .ok (.iload_n 2, 1) := by decide +kernel
theorem dX1_dispose_33 : decode cX1_dispose 33 = .ok (.iadd, 1) := by decide +kernel
theorem dX1_dispose_34 : decode cX1_dispose 34 = .ok (.putfield 25, 3) := by decide +kernel
theorem dX1_dispose_37 : decode cX1_dispose 37 = .ok (.goto 13, 3) := by decide +kernel
theorem dX1_dispose_40 : decode cX1_dispose 40 = .ok (.aload_n 0, 1) := by decide +kernel
theorem dX1_dispose_41 : decode cX1_dispose 41 = .ok (.dup, 1) := by decide +kernel
theorem dX1_dispose_42 : decode cX1_dispose 42 = .ok (.getfield 28, 3) := by decide +kernel
theorem dX1_dispose_45 : decode cX1_dispose 45 = .ok (.iload_n 2, 1) := by decide +kernel
theorem dX1_dispose_46 : decode cX1_dispose 46 = .ok (.iadd, 1) := by decide +kernel
theorem dX1_dispose_47 : decode cX1_dispose 47 = .ok (.putfield 28, 3) := by decide +kernel
theorem dX1_dispose_50 : decode cX1_dispose 50 = .ok (.aload_n 0, 1) := by decide +kernel
theorem dX1_dispose_51 : decode cX1_dispose 51 = .ok (.dup, 1) := by decide +kernel
theorem dX1_dispose_52 : decode cX1_dispose 52 = .ok (.getfield 22, 3) := by decide +kernel
theorem dX1_dispose_55 : decode cX1_dispose 55 = .ok (.iload_n 2, 1) := by decide +kernel
theorem dX1_dispose_56 : decode cX1_dispose 56 = .ok (.isub, 1) := by decide +kernel
theorem dX1_dispose_57 : decode cX1_dispose 57 = .ok (.putfield 22, 3) := by decide +kernel
theorem dX1_dispose_60 : decode cX1_dispose 60 = .ok (.aload_n 0, 1) := by decide +kernel
theorem dX1_dispose_61 : decode cX1_dispose 61 = .ok (.getfield 22, 3) := by decide +kernel
theorem dX1_dispose_64 : decode cX1_dispose 64 = .ok (.ireturn, 1) := by decide +kernel
theorem dX1_takeOut_0 : decode cX1_takeOut 0 = .ok (.aload_n 0, 1) := by decide +kernel
theorem dX1_takeOut_1 : decode cX1_takeOut 1 = .ok (.dup, 1) := by decide +kernel
theorem dX1_takeOut_2 : decode cX1_takeOut 2 = .ok (.getfield 22, 3) := by decide +kernel
theorem dX1_takeOut_5 : decode cX1_takeOut 5 = .ok (.iconst 1, 1) := by decide +kernel
theorem dX1_takeOut_6 : decode cX1_takeOut 6 = .ok (.isub, 1) := by decide +kernel
theorem dX1_takeOut_7 : decode cX1_takeOut 7 = .ok (.putfield 22, 3) := by decide +kernel
theorem dX1_takeOut_10 : decode cX1_takeOut 10 = .ok (.aload_n 0, 1) := by decide +kernel
theorem dX1_takeOut_11 : decode cX1_takeOut 11 = .ok (.dup, 1) := by decide +kernel
theorem dX1_takeOut_12 : decode cX1_takeOut 12 = .ok (.getfield 31, 3) := by decide +kernel
theorem dX1_takeOut_15 : decode cX1_takeOut 15 = .ok (.iconst 1, 1) := by decide +kernel
theorem dX1_takeOut_16 : decode cX1_takeOut 16 = .ok (.iadd, 1) := by decide +kernel
theorem dX1_takeOut_17 : decode cX1_takeOut 17 = .ok (.putfield 31, 3) := by decide +kernel
theorem dX1_takeOut_20 : decode cX1_takeOut 20 = .ok (.return_, 1) := by decide +kernel
theorem dX1_putBack_0 : decode cX1_putBack 0 = .ok (.aload_n 0, 1) := by decide +kernel
theorem dX1_putBack_1 : decode cX1_putBack 1 = .ok (.dup, 1) := by decide +kernel
theorem dX1_putBack_2 : decode cX1_putBack 2 = .ok (.getfield 22, 3) := by decide +kernel
theorem dX1_putBack_5 : decode cX1_putBack 5 = .ok (.iconst 1, 1) := by decide +kernel
theorem dX1_putBack_6 : decode cX1_putBack 6 = .ok (.iadd, 1) := by decide +kernel
theorem dX1_putBack_7 : decode cX1_putBack 7 = .ok (.putfield 22, 3) := by decide +kernel
theorem dX1_putBack_10 : decode cX1_putBack 10 = .ok (.aload_n 0, 1) := by decide +kernel
theorem dX1_putBack_11 : decode cX1_putBack 11 = .ok (.dup, 1) := by decide +kernel
theorem dX1_putBack_12 : decode cX1_putBack 12 = .ok (.getfield 34, 3) := by decide +kernel
theorem dX1_putBack_15 : decode cX1_putBack 15 = .ok (.iconst 1, 1) := by decide +kernel
theorem dX1_putBack_16 : decode cX1_putBack 16 = .ok (.iadd, 1) := by decide +kernel
theorem dX1_putBack_17 : decode cX1_putBack 17 = .ok (.putfield 34, 3) := by decide +kernel
theorem dX1_putBack_20 : decode cX1_putBack 20 = .ok (.return_, 1) := by decide +kernel
theorem dX1_percentOfPrice_0 : decode cX1_percentOfPrice 0 = .ok (.aload_n 0, 1) := by decide +kernel
theorem dX1_percentOfPrice_1 : decode cX1_percentOfPrice 1 = .ok (.getfield 19, 3) := by decide +kernel
theorem dX1_percentOfPrice_4 : decode cX1_percentOfPrice 4 = .ok (.iload_n 1, 1) := by decide +kernel
theorem dX1_percentOfPrice_5 : decode cX1_percentOfPrice 5 = .ok (.imul, 1) := by decide +kernel
theorem dX1_percentOfPrice_6 : decode cX1_percentOfPrice 6 = .ok (.bipush 100, 2) := by decide +kernel
theorem dX1_percentOfPrice_8 : decode cX1_percentOfPrice 8 = .ok (.idiv, 1) := by decide +kernel
theorem dX1_percentOfPrice_9 : decode cX1_percentOfPrice 9 = .ok (.ireturn, 1) := by decide +kernel
theorem dX2_init_0 : decode cX2_init 0 = .ok (.aload_n 0, 1) := by decide +kernel
theorem dX2_init_1 : decode cX2_init 1 = .ok (.invokespecial 3, 3) := by decide +kernel
theorem dX2_init_4 : decode cX2_init 4 = .ok (.aload_n 0, 1) := by decide +kernel
theorem dX2_init_5 : decode cX2_init 5 = .ok (.aload_n 1, 1) := by decide +kernel
theorem dX2_init_6 : decode cX2_init 6 = .ok (.putfield 9, 3) := by decide +kernel
theorem dX2_init_9 : decode cX2_init 9 = .ok (.aload_n 0, 1) := by decide +kernel
theorem dX2_init_10 : decode cX2_init 10 = .ok (.bipush 10, 2) := by decide +kernel
theorem dX2_init_12 : decode cX2_init 12 = .ok (.newarray .int, 2) := by decide +kernel
theorem dX2_init_14 : decode cX2_init 14 = .ok (.putfield 15, 3) := by decide +kernel
theorem dX2_init_17 : decode cX2_init 17 = .ok (.aload_n 0, 1) := by decide +kernel
theorem dX2_init_18 : decode cX2_init 18 = .ok (.getfield 15, 3) := by decide +kernel
theorem dX2_init_21 : decode cX2_init 21 = .ok (.iconst 2, 1) := by decide +kernel
theorem dX2_init_22 : decode cX2_init 22 = .ok (.invokestatic 19, 3) := by decide +kernel
theorem dX2_init_25 : decode cX2_init 25 = .ok (.aload_n 0, 1) := by decide +kernel
theorem dX2_init_26 : decode cX2_init 26 = .ok (.bipush 10, 2) := by decide +kernel
theorem dX2_init_28 : decode cX2_init 28 = .ok (.newarray .boolean, 2) := by decide +kernel
theorem dX2_init_30 : decode cX2_init 30 = .ok (.putfield 25, 3) := by decide +kernel
theorem dX2_init_33 : decode cX2_init 33 = .ok (.aload_n 0, 1) := by decide +kernel
theorem dX2_init_34 : decode cX2_init 34 = .ok (.new 29, 3) := by decide +kernel
theorem dX2_init_37 : decode cX2_init 37 = .ok (.dup, 1) := by decide +kernel
theorem dX2_init_38 : decode cX2_init 38 = .ok (.invokespecial 31, 3) := by decide +kernel
theorem dX2_init_41 : decode cX2_init 41 = .ok (.putfield 32, 3) := by decide +kernel
theorem dX2_init_44 : decode cX2_init 44 = .ok (.aload_n 0, 1) := by decide +kernel
theorem dX2_init_45 : decode cX2_init 45 = .ok (.new 29, 3) := by decide +kernel
theorem dX2_init_48 : decode cX2_init 48 = .ok (.dup, 1) := by decide +kernel
theorem dX2_init_49 : decode cX2_init 49 = .ok (.invokespecial 31, 3) := by decide +kernel
theorem dX2_init_52 : decode cX2_init 52 = .ok (.putfield 36, 3) := by decide +kernel
theorem dX2_init_55 : decode cX2_init 55 = .ok (.aload_n 0, 1) := by decide +kernel
theorem dX2_init_56 : decode cX2_init 56 = .ok (.new 39, 3) := by decide +kernel
theorem dX2_init_59 : decode cX2_init 59 = .ok (.dup, 1) := by decide +kernel
theorem dX2_init_60 : decode cX2_init 60 = .ok (.invokespecial 41, 3) := by decide +kernel
theorem dX2_init_63 : decode cX2_init 63 = .ok (.putfield 42, 3) := by decide +kernel
theorem dX2_init_66 : decode cX2_init 66 = .ok (.aload_n 0, 1) := by decide +kernel
theorem dX2_init_67 : decode cX2_init 67 = .ok (.new 46, 3) := by decide +kernel
theorem dX2_init_70 : decode cX2_init 70 = .ok (.dup, 1) := by decide +kernel
theorem dX2_init_71 : decode cX2_init 71 = .ok (.invokespecial 48, 3) := by decide +kernel
theorem dX2_init_74 : decode cX2_init 74 = .ok (.putfield 49, 3) := by decide +kernel
theorem dX2_init_77 : decode cX2_init 77 = .ok (.aload_n 0, 1) := by decide +kernel
theorem dX2_init_78 : decode cX2_init 78 = .ok (.getfield 36, 3) := by decide +kernel
theorem dX2_init_81 : decode cX2_init 81 = .ok (.aload_n 0, 1) := by decide +kernel
theorem dX2_init_82 : decode cX2_init 82 = .ok (.getfield 49, 3) := by decide +kernel
theorem dX2_init_85 : decode cX2_init 85 = .ok (.invokevirtual 53, 3) := by decide +kernel
theorem dX2_init_88 : decode cX2_init 88 = .ok (.pop, 1) := by decide +kernel
theorem dX2_init_89 : decode cX2_init 89 = .ok (.aload_n 0, 1) := by decide +kernel
theorem dX2_init_90 : decode cX2_init 90 = .ok (.iconst 0, 1) := by decide +kernel
theorem dX2_init_91 : decode cX2_init 91 = .ok (.putfield 57, 3) := by decide +kernel
theorem dX2_init_94 : decode cX2_init 94 = .ok (.return_, 1) := by decide +kernel
theorem dX2_findMember_0 : decode cX2_findMember 0 = .ok (.iload_n 1, 1) := by decide +kernel
theorem dX2_findMember_1 : decode cX2_findMember 1 = .ok (.iconst 0, 1) := by decide +kernel
theorem dX2_findMember_2 : decode cX2_findMember 2 = .ok (.aload_n 0, 1) := by decide +kernel
theorem dX2_findMember_3 : decode cX2_findMember 3 = .ok (.getfield 32, 3) := by decide +kernel
theorem dX2_findMember_6 : decode cX2_findMember 6 = .ok (.invokevirtual 61, 3) := by decide +kernel
theorem dX2_findMember_9 : decode cX2_findMember 9 = .ok (.iconst 1, 1) := by decide +kernel
theorem dX2_findMember_10 : decode cX2_findMember 10 = .ok (.isub, 1) := by decide +kernel
theorem dX2_findMember_11 : decode cX2_findMember 11 = .ok (.invokestatic 65, 3) := by decide +kernel
theorem dX2_findMember_14 : decode cX2_findMember 14 = .ok (.ifCond .eq 17, 3) := by decide +kernel
theorem dX2_findMember_17 : decode cX2_findMember 17 = .ok (.aload_n 0, 1) := by decide +kernel
theorem dX2_findMember_18 : decode cX2_findMember 18 = .ok (.getfield 32, 3) := by decide +kernel
theorem dX2_findMember_21 : decode cX2_findMember 21 = .ok (.iload_n 1, 1) := by decide +kernel
theorem dX2_findMember_22 : decode cX2_findMember 22 = .ok (.invokevirtual 69, 3) := by decide +kernel
theorem dX2_findMember_25 : decode cX2_findMember 25 = .ok (.checkcast 73, 3) := by decide +kernel
theorem dX2_findMember_28 : decode cX2_findMember 28 = .ok (.goto 4, 3) := by decide +kernel
theorem dX2_findMember_31 : decode cX2_findMember 31 = .ok (.aconst_null, 1) := by decide +kernel
theorem dX2_findMember_32 : decode cX2_findMember 32 = .ok (.areturn, 1) := by decide +kernel
theorem dX2_findChoice_0 : decode cX2_findChoice 0 = .ok (.iload_n 1, 1) := by decide +kernel
theorem dX2_findChoice_1 : decode cX2_findChoice 1 = .ok (.iconst 0, 1) := by decide +kernel
theorem dX2_findChoice_2 : decode cX2_findChoice 2 = .ok (.aload_n 0, 1) := by decide +kernel
theorem dX2_findChoice_3 : decode cX2_findChoice 3 = .ok (.getfield 36, 3) := by decide +kernel
theorem dX2_findChoice_6 : decode cX2_findChoice 6 = .ok (.invokevirtual 61, 3) := by decide +kernel
theorem dX2_findChoice_9 : decode cX2_findChoice 9 = .ok (.iconst 1, 1) := by decide +kernel
theorem dX2_findChoice_10 : decode cX2_findChoice 10 = .ok (.isub, 1) := by decide +kernel
theorem dX2_findChoice_11 : decode cX2_findChoice 11 = .ok (.invokestatic 65, 3) := by decide +kernel
theorem dX2_findChoice_14 : decode cX2_findChoice 14 = .ok (.ifCond .eq 17, 3) := by decide +kernel
theorem dX2_findChoice_17 : decode cX2_findChoice 17 = .ok (.aload_n 0, 1) := by decide +kernel
theorem dX2_findChoice_18 : decode cX2_findChoice 18 = .ok (.getfield 36, 3) := by decide +kernel
theorem dX2_findChoice_21 : decode cX2_findChoice 21 = .ok (.iload_n 1, 1) := by decide +kernel
theorem dX2_findChoice_22 : decode cX2_findChoice 22 = .ok (.invokevirtual 69, 3) := by decide +kernel
theorem dX2_findChoice_25 : decode cX2_findChoice 25 = .ok (.checkcast 46, 3) := by decide +kernel
theorem dX2_findChoice_28 : decode cX2_findChoice 28 = .ok (.goto 4, 3) := by decide +kernel
theorem dX2_findChoice_31 : decode cX2_findChoice 31 = .ok (.aconst_null, 1) := by decide +kernel
theorem dX2_findChoice_32 : decode cX2_findChoice 32 = .ok (.areturn, 1) := by decide +kernel
theorem dX2_membersIn_0 : decode cX2_membersIn 0 = .ok (.iconst 0, 1) := by decide +kernel
theorem dX2_membersIn_1 : decode cX2_membersIn 1 = .ok (.istore_n 2, 1) := by decide +kernel
theorem dX2_membersIn_2 : decode cX2_membersIn 2 = .ok (.iconst 0, 1) := by decide +kernel
theorem dX2_membersIn_3 : decode cX2_membersIn 3 = .ok (.istore_n 3, 1) := by decide +kernel
theorem dX2_membersIn_4 : decode cX2_membersIn 4 = .ok (.iload_n 3, 1) := by decide +kernel
theorem dX2_membersIn_5 : decode cX2_membersIn 5 = .ok (.aload_n 0, 1) := by decide +kernel
theorem dX2_membersIn_6 : decode cX2_membersIn 6 = .ok (.getfield 32, 3) := by decide +kernel
theorem dX2_membersIn_9 : decode cX2_membersIn 9 = .ok (.invokevirtual 61, 3) := by decide +kernel
theorem dX2_membersIn_12 : decode cX2_membersIn 12 = .ok (.if_icmp .ge 30, 3) := by decide +kernel
theorem dX2_membersIn_15 : decode cX2_membersIn 15 = .ok (.aload_n 0, 1) := by decide +kernel
theorem dX2_membersIn_16 : decode cX2_membersIn 16 = .ok (.getfield 32, 3) := by decide +kernel
theorem dX2_membersIn_19 : decode cX2_membersIn 19 = .ok (.iload_n 3, 1) := by decide +kernel
theorem dX2_membersIn_20 : decode cX2_membersIn 20 = .ok (.invokevirtual 69, 3) := by decide +kernel
theorem dX2_membersIn_23 : decode cX2_membersIn 23 = .ok (.checkcast 73, 3) := by decide +kernel
theorem dX2_membersIn_26 : decode cX2_membersIn 26 = .ok (.getfield 75, 3) := by decide +kernel
theorem dX2_membersIn_29 : decode cX2_membersIn 29 = .ok (.iload_n 1, 1) := by decide +kernel
theorem dX2_membersIn_30 : decode cX2_membersIn 30 = .ok (.if_icmp .ne 6, 3) := by decide +kernel
theorem dX2_membersIn_33 : decode cX2_membersIn 33 = .ok (.iinc 2 1, 3) := by decide +kernel
theorem dX2_membersIn_36 : decode cX2_membersIn 36 = .ok (.iinc 3 1, 3) := by decide +kernel
theorem dX2_membersIn_39 : decode cX2_membersIn 39 = .ok (.goto (-35), 3) := by decide +kernel
theorem dX2_membersIn_42 : decode cX2_membersIn 42 = .ok (.iload_n 2, 1) := by decide +kernel
theorem dX2_membersIn_43 : decode cX2_membersIn 43 = .ok (.ireturn, 1) := by decide +kernel
theorem dX2_setLag_0 : decode cX2_setLag 0 = .ok (.iload_n 1, 1) := by decide +kernel
theorem dX2_setLag_1 : decode cX2_setLag 1 = .ok (.invokestatic 78, 3) := by decide +kernel
theorem dX2_setLag_4 : decode cX2_setLag 4 = .ok (.ifCond .eq 13, 3) := by decide +kernel
theorem dX2_setLag_7 : decode cX2_setLag 7 = .ok (.iload_n 2, 1) := by decide +kernel
theorem dX2_setLag_8 : decode cX2_setLag 8 = .ok (.iconst 0, 1) := by decide +kernel
theorem dX2_setLag_9 : decode cX2_setLag 9 = .ok (.bipush 20, 2) := by decide +kernel
theorem dX2_setLag_11 : decode cX2_setLag 11 = .ok (.invokestatic 65, 3) := by decide +kernel
theorem dX2_setLag_14 : decode cX2_setLag 14 = .ok (.ifCond .ne 5, 3) := by decide +kernel
theorem dX2_setLag_17 : decode cX2_setLag 17 = .ok (.iconst 0, 1) := by decide +kernel
theorem dX2_setLag_18 : decode cX2_setLag 18 = .ok (.ireturn, 1) := by decide +kernel
theorem dX2_setLag_19 : decode cX2_setLag 19 = .ok (.aload_n 0, 1) := by decide +kernel
theorem dX2_setLag_20 : decode cX2_setLag 20 = .ok (.getfield 15, 3) := by decide +kernel
theorem dX2_setLag_23 : decode cX2_setLag 23 = .ok (.iload_n 1, 1) := by decide +kernel
theorem dX2_setLag_24 : decode cX2_setLag 24 = .ok (.iload_n 2, 1) := by decide +kernel
theorem dX2_setLag_25 : decode cX2_setLag 25 = .ok (.iastore, 1) := by decide +kernel
theorem dX2_setLag_26 : decode cX2_setLag 26 = .ok (.iconst 1, 1) := by decide +kernel
theorem dX2_setLag_27 : decode cX2_setLag 27 = .ok (.ireturn, 1) := by decide +kernel
theorem dX2_admit_0 : decode cX2_admit 0 = .ok (.iload_n 1, 1) := by decide +kernel
theorem dX2_admit_1 : decode cX2_admit 1 = .ok (.invokestatic 82, 3) := by decide +kernel
theorem dX2_admit_4 : decode cX2_admit 4 = .ok (.ifCond .eq 22, 3) := by decide +kernel
theorem dX2_admit_7 : decode cX2_admit 7 = .ok (.iload_n 2, 1) := by decide +kernel
theorem dX2_admit_8 : decode cX2_admit 8 = .ok (.invokestatic 78, 3) := by decide +kernel
theorem dX2_admit_11 : decode cX2_admit 11 = .ok (.ifCond .eq 15, 3) := by decide +kernel
theorem dX2_admit_14 : decode cX2_admit 14 = .ok (.aload_n 0, 1) := by decide +kernel
theorem dX2_admit_15 : decode cX2_admit 15 = .ok (.getfield 32, 3) := by decide +kernel
theorem dX2_admit_18 : decode cX2_admit 18 = .ok (.invokevirtual 61, 3) := by decide +kernel
theorem dX2_admit_21 : decode cX2_admit 21 = .ok (.bipush 40, 2) := by decide +kernel
theorem dX2_admit_23 : decode cX2_admit 23 = .ok (.if_icmp .lt 5, 3) := by decide +kernel
theorem dX2_admit_26 : decode cX2_admit 26 = .ok (.iconst (-1), 1) := by decide +kernel
theorem dX2_admit_27 : decode cX2_admit 27 = .ok (.ireturn, 1) := by decide +kernel
theorem dX2_admit_28 : decode cX2_admit 28 = .ok (.aload_n 0, 1) := by decide +kernel
theorem dX2_admit_29 : decode cX2_admit 29 = .ok (.getfield 25, 3) := by decide +kernel
theorem dX2_admit_32 : decode cX2_admit 32 = .ok (.iload_n 2, 1) := by decide +kernel
theorem dX2_admit_33 : decode cX2_admit 33 = .ok (.baload, 1) := by decide +kernel
theorem dX2_admit_34 : decode cX2_admit 34 = .ok (.ifCond .eq 7, 3) := by decide +kernel
theorem dX2_admit_37 : decode cX2_admit 37 = .ok (.iconst 0, 1) := by decide +kernel
theorem dX2_admit_38 : decode cX2_admit 38 = .ok (.goto 8, 3) := by decide +kernel
theorem dX2_admit_41 : decode cX2_admit 41 = .ok (.aload_n 0, 1) := by decide +kernel
theorem dX2_admit_42 : decode cX2_admit 42 = .ok (.iconst 3, 1) := by decide +kernel
theorem dX2_admit_43 : decode cX2_admit 43 = .ok (.invokevirtual 87, 3) := by decide +kernel
theorem dX2_admit_46 : decode cX2_admit 46 = .ok (.istore_n 3, 1) := by decide +kernel
theorem dX2_admit_47 : decode cX2_admit 47 = .ok (.iload_n 3, 1) := by decide +kernel
theorem dX2_admit_48 : decode cX2_admit 48 = .ok (.ifCond .le 16, 3) := by decide +kernel
theorem dX2_admit_51 : decode cX2_admit 51 = .ok (.aload_n 0, 1) := by decide +kernel
theorem dX2_admit_52 : decode cX2_admit 52 = .ok (.getfield 42, 3) := by decide +kernel
theorem dX2_admit_55 : decode cX2_admit 55 = .ok (.invokevirtual 91, 3) := by decide +kernel
theorem dX2_admit_58 : decode cX2_admit 58 = .ok (.iconst 1, 1) := by decide +kernel
theorem dX2_admit_59 : decode cX2_admit 59 = .ok (.if_icmp .ge 5, 3) := by decide +kernel
theorem dX2_admit_62 : decode cX2_admit 62 = .ok (.iconst (-1), 1) := by decide +kernel
theorem dX2_admit_63 : decode cX2_admit 63 = .ok (.ireturn, 1) := by decide +kernel
theorem dX2_admit_64 : decode cX2_admit 64 = .ok (.new 73, 3) := by decide +kernel
theorem dX2_admit_67 : decode cX2_admit 67 = .ok (.dup, 1) := by decide +kernel
theorem dX2_admit_68 : decode cX2_admit 68 = .ok (.aload_n 0, 1) := by decide +kernel
theorem dX2_admit_69 : decode cX2_admit 69 = .ok (.getfield 32, 3) := by decide +kernel
theorem dX2_admit_72 : decode cX2_admit 72 = .ok (.invokevirtual 61, 3) := by decide +kernel
theorem dX2_admit_75 : decode cX2_admit 75 = .ok (.iload_n 1, 1) := by decide +kernel
theorem dX2_admit_76 : decode cX2_admit 76 = .ok (.iload_n 2, 1) := by decide +kernel
theorem dX2_admit_77 : decode cX2_admit 77 = .ok (.invokespecial 94, 3) := by decide +kernel
theorem dX2_admit_80 : decode cX2_admit 80 = .ok (.astore 4, 2) := by decide +kernel
theorem dX2_admit_82 : decode cX2_admit 82 = .ok (.aload_n 0, 1) := by decide +kernel
theorem dX2_admit_83 : decode cX2_admit 83 = .ok (.getfield 32, 3) := by decide +kernel
theorem dX2_admit_86 : decode cX2_admit 86 = .ok (.aload 4, 2) := by decide +kernel
theorem dX2_admit_88 : decode cX2_admit 88 = .ok (.invokevirtual 53, 3) := by decide +kernel
theorem dX2_admit_91 : decode cX2_admit 91 = .ok (.pop, 1) := by decide +kernel
theorem dX2_admit_92 : decode cX2_admit 92 = .ok (.iload_n 3, 1) := by decide +kernel
theorem dX2_admit_93 : decode cX2_admit 93 = .ok (.ifCond .le 19, 3) := by decide +kernel
theorem dX2_admit_96 : decode cX2_admit 96 = .ok (.aload_n 0, 1) := by decide +kernel
theorem dX2_admit_97 : decode cX2_admit 97 = .ok (.getfield 25, 3) := by decide +kernel
theorem dX2_admit_100 : decode cX2_admit 100 = .ok (.iload_n 2, 1) := by decide +kernel
theorem dX2_admit_101 : decode cX2_admit 101 = .ok (.iconst 1, 1) := by decide +kernel
theorem dX2_admit_102 : decode cX2_admit 102 = .ok (.bastore, 1) := by decide +kernel
theorem dX2_admit_103 : decode cX2_admit 103 = .ok (.aload_n 0, 1) := by decide +kernel
theorem dX2_admit_104 : decode cX2_admit 104 = .ok (.aload 4, 2) := by decide +kernel
theorem dX2_admit_106 : decode cX2_admit 106 = .ok (.iconst 0, 1) := by decide +kernel
theorem dX2_admit_107 : decode cX2_admit 107 = .ok (.iload_n 3, 1) := by decide +kernel
theorem dX2_admit_108 : decode cX2_admit 108 = .ok (.i2l, 1) := by decide +kernel
theorem dX2_admit_109 : decode cX2_admit 109 = .ok (.invokevirtual 97, 3) := by decide +kernel
theorem dX2_admit_112 : decode cX2_admit 112 = .ok (.aload 4, 2) := by decide +kernel
theorem dX2_admit_114 : decode cX2_admit 114 = .ok (.getfield 101, 3) := by decide +kernel
theorem dX2_admit_117 : decode cX2_admit 117 = .ok (.ireturn, 1) := by decide +kernel
theorem dX2_rehouse_0 : decode cX2_rehouse 0 = .ok (.aload_n 1, 1) := by decide +kernel
theorem dX2_rehouse_1 : decode cX2_rehouse 1 = .ok (.ifnull 18, 3) := by decide +kernel
theorem dX2_rehouse_4 : decode cX2_rehouse 4 = .ok (.aload_n 1, 1) := by decide +kernel
theorem dX2_rehouse_5 : decode cX2_rehouse 5 = .ok (.getfield 75, 3) := by decide +kernel
theorem dX2_rehouse_8 : decode cX2_rehouse 8 = .ok (.iconst 2, 1) := by decide +kernel
theorem dX2_rehouse_9 : decode cX2_rehouse 9 = .ok (.if_icmp .eq 10, 3) := by decide +kernel
theorem dX2_rehouse_12 : decode cX2_rehouse 12 = .ok (.iload_n 2, 1) := by decide +kernel
theorem dX2_rehouse_13 : decode cX2_rehouse 13 = .ok (.invokestatic 78, 3) := by decide +kernel
theorem dX2_rehouse_16 : decode cX2_rehouse 16 = .ok (.ifCond .ne 5, 3) := by decide +kernel
theorem dX2_rehouse_19 : decode cX2_rehouse 19 = .ok (.iconst 0, 1) := by decide +kernel
theorem dX2_rehouse_20 : decode cX2_rehouse 20 = .ok (.ireturn, 1) := by decide +kernel
theorem dX2_rehouse_21 : decode cX2_rehouse 21 = .ok (.aload_n 1, 1) := by decide +kernel
theorem dX2_rehouse_22 : decode cX2_rehouse 22 = .ok (.iload_n 2, 1) := by decide +kernel
theorem dX2_rehouse_23 : decode cX2_rehouse 23 = .ok (.putfield 104, 3) := by decide +kernel
theorem dX2_rehouse_26 : decode cX2_rehouse 26 = .ok (.iconst 1, 1) := by decide +kernel
theorem dX2_rehouse_27 : decode cX2_rehouse 27 = .ok (.ireturn, 1) := by decide +kernel
theorem dX2_receive_0 : decode cX2_receive 0 = .ok (.aload_n 1, 1) := by decide +kernel
theorem dX2_receive_1 : decode cX2_receive 1 = .ok (.ifnull 24, 3) := by decide +kernel
theorem dX2_receive_4 : decode cX2_receive 4 = .ok (.iload_n 2, 1) := by decide +kernel
theorem dX2_receive_5 : decode cX2_receive 5 = .ok (.iconst 1, 1) := by decide +kernel
theorem dX2_receive_6 : decode cX2_receive 6 = .ok (.ldc 107, 2) := by decide +kernel
theorem dX2_receive_8 : decode cX2_receive 8 = .ok (.invokestatic 65, 3) := by decide +kernel
theorem dX2_receive_11 : decode cX2_receive 11 = .ok (.ifCond .eq 14, 3) := by decide +kernel
theorem dX2_receive_14 : decode cX2_receive 14 = .ok (.aload_n 0, 1) := by decide +kernel
theorem dX2_receive_15 : decode cX2_receive 15 = .ok (.getfield 42, 3) := by decide +kernel
theorem dX2_receive_18 : decode cX2_receive 18 = .ok (.invokevirtual 91, 3) := by decide +kernel
theorem dX2_receive_21 : decode cX2_receive 21 = .ok (.iconst 1, 1) := by decide +kernel
theorem dX2_receive_22 : decode cX2_receive 22 = .ok (.if_icmp .ge 7, 3) := by decide +kernel
theorem dX2_receive_25 : decode cX2_receive 25 = .ok (.ldc2_w 108, 3) := by decide +kernel
theorem dX2_receive_28 : decode cX2_receive 28 = .ok (.lreturn, 1) := by decide +kernel
theorem dX2_receive_29 : decode cX2_receive 29 = .ok (.aload_n 0, 1) := by decide +kernel
theorem dX2_receive_30 : decode cX2_receive 30 = .ok (.aload_n 1, 1) := by decide +kernel
theorem dX2_receive_31 : decode cX2_receive 31 = .ok (.iconst 1, 1) := by decide +kernel
theorem dX2_receive_32 : decode cX2_receive 32 = .ok (.iload_n 2, 1) := by decide +kernel
theorem dX2_receive_33 : decode cX2_receive 33 = .ok (.i2l, 1) := by decide +kernel
theorem dX2_receive_34 : decode cX2_receive 34 = .ok (.invokevirtual 97, 3) := by decide +kernel
theorem dX2_receive_37 : decode cX2_receive 37 = .ok (.aload_n 1, 1) := by decide +kernel
theorem dX2_receive_38 : decode cX2_receive 38 = .ok (.aload_n 0, 1) := by decide +kernel
theorem dX2_receive_39 : decode cX2_receive 39 = .ok (.iconst 4, 1) := by decide +kernel
theorem dX2_receive_40 : decode cX2_receive 40 = .ok (.invokevirtual 87, 3) := by decide +kernel
theorem dX2_receive_43 : decode cX2_receive 43 = .ok (.invokevirtual 110, 3) := by decide +kernel
theorem dX2_receive_46 : decode cX2_receive 46 = .ok (.ifCond .ne 7, 3) := by decide +kernel
theorem dX2_receive_49 : decode cX2_receive 49 = .ok (.aload_n 1, 1) := by decide +kernel
theorem dX2_receive_50 : decode cX2_receive 50 = .ok (.invokevirtual 113, 3) := by decide +kernel
theorem dX2_receive_53 : decode cX2_receive 53 = .ok (.aload_n 1, 1) := by decide +kernel
theorem dX2_receive_54 : decode cX2_receive 54 = .ok (.getfield 116, 3) := by decide +kernel
theorem dX2_receive_57 : decode cX2_receive 57 = .ok (.lreturn, 1) := by decide +kernel
theorem dX2_dismiss_0 : decode cX2_dismiss 0 = .ok (.aload_n 1, 1) := by decide +kernel
theorem dX2_dismiss_1 : decode cX2_dismiss 1 = .ok (.ifnull 11, 3) := by decide +kernel
theorem dX2_dismiss_4 : decode cX2_dismiss 4 = .ok (.aload_n 1, 1) := by decide +kernel
theorem dX2_dismiss_5 : decode cX2_dismiss 5 = .ok (.getfield 75, 3) := by decide +kernel
theorem dX2_dismiss_8 : decode cX2_dismiss 8 = .ok (.iconst 2, 1) := by decide +kernel
theorem dX2_dismiss_9 : decode cX2_dismiss 9 = .ok (.if_icmp .ne 7, 3) := by decide +kernel
theorem dX2_dismiss_12 : decode cX2_dismiss 12 = .ok (.ldc2_w 120, 3) := by decide +kernel
theorem dX2_dismiss_15 : decode cX2_dismiss 15 = .ok (.lreturn, 1) := by decide +kernel
theorem dX2_dismiss_16 : decode cX2_dismiss 16 = .ok (.aload_n 1, 1) := by decide +kernel
theorem dX2_dismiss_17 : decode cX2_dismiss 17 = .ok (.getfield 116, 3) := by decide +kernel
theorem dX2_dismiss_20 : decode cX2_dismiss 20 = .ok (.lconst 0, 1) := by decide +kernel
theorem dX2_dismiss_21 : decode cX2_dismiss 21 = .ok (.lcmp, 1) := by decide +kernel
theorem dX2_dismiss_22 : decode cX2_dismiss 22 = .ok (.ifCond .le 10, 3) := by decide +kernel
theorem dX2_dismiss_25 : decode cX2_dismiss 25 = .ok (.aload_n 1, 1) := by decide +kernel
theorem dX2_dismiss_26 : decode cX2_dismiss 26 = .ok (.getfield 116, 3) := by decide +kernel
theorem dX2_dismiss_29 : decode cX2_dismiss 29 = .ok (.goto 4, 3) := by decide +kernel
theorem dX2_dismiss_32 : decode cX2_dismiss 32 = .ok (.lconst 0, 1) := by decide +kernel
theorem dX2_dismiss_33 : decode cX2_dismiss 33 = .ok (.lstore_n 2, 1) := by decide +kernel
theorem dX2_dismiss_34 : decode cX2_dismiss 34 = .ok (.lload_n 2, 1) := by decide +kernel
theorem dX2_dismiss_35 : decode cX2_dismiss 35 = .ok (.lconst 0, 1) := by decide +kernel
theorem dX2_dismiss_36 : decode cX2_dismiss 36 = .ok (.lcmp, 1) := by decide +kernel
theorem dX2_dismiss_37 : decode cX2_dismiss 37 = .ok (.ifCond .le 18, 3) := by decide +kernel
theorem dX2_dismiss_40 : decode cX2_dismiss 40 = .ok (.aload_n 0, 1) := by decide +kernel
theorem dX2_dismiss_41 : decode cX2_dismiss 41 = .ok (.getfield 42, 3) := by decide +kernel
theorem dX2_dismiss_44 : decode cX2_dismiss 44 = .ok (.invokevirtual 91, 3) := by decide +kernel
theorem dX2_dismiss_47 : decode cX2_dismiss 47 = .ok (.iconst 1, 1) := by decide +kernel
theorem dX2_dismiss_48 : decode cX2_dismiss 48 = .ok (.if_icmp .ge 7, 3) := by decide +kernel
theorem dX2_dismiss_51 : decode cX2_dismiss 51 = .ok (.ldc2_w 120, 3) := by decide +kernel
theorem dX2_dismiss_54 : decode cX2_dismiss 54 = .ok (.lreturn, 1) := by decide +kernel
theorem dX2_dismiss_55 : decode cX2_dismiss 55 = .ok (.aload_n 1, 1) := by decide +kernel
theorem dX2_dismiss_56 : decode cX2_dismiss 56 = .ok (.iconst 2, 1) := by decide +kernel
theorem dX2_dismiss_57 : decode cX2_dismiss 57 = .ok (.putfield 75, 3) := by decide +kernel
theorem dX2_dismiss_60 : decode cX2_dismiss 60 = .ok (.aload_n 0, 1) := by decide +kernel
theorem dX2_dismiss_61 : decode cX2_dismiss 61 = .ok (.aload_n 1, 1) := by decide +kernel
theorem dX2_dismiss_62 : decode cX2_dismiss 62 = .ok (.bipush 6, 2) := by decide +kernel
theorem dX2_dismiss_64 : decode cX2_dismiss 64 = .ok (.lload_n 2, 1) := by decide +kernel
theorem dX2_dismiss_65 : decode cX2_dismiss 65 = .ok (.lneg, 1) := by decide +kernel
theorem dX2_dismiss_66 : decode cX2_dismiss 66 = .ok (.invokevirtual 97, 3) := by decide +kernel
theorem dX2_dismiss_69 : decode cX2_dismiss 69 = .ok (.lload_n 2, 1) := by decide +kernel
theorem dX2_dismiss_70 : decode cX2_dismiss 70 = .ok (.lreturn, 1) := by decide +kernel
theorem dX2_tellChoice_0 : decode cX2_tellChoice 0 = .ok (.aload_n 0, 1) := by decide +kernel
theorem dX2_tellChoice_1 : decode cX2_tellChoice 1 = .ok (.getfield 49, 3) := by decide +kernel
theorem dX2_tellChoice_4 : decode cX2_tellChoice 4 = .ok (.iload_n 1, 1) := by decide +kernel
theorem dX2_tellChoice_5 : decode cX2_tellChoice 5 = .ok (.iload_n 2, 1) := by decide +kernel
theorem dX2_tellChoice_6 : decode cX2_tellChoice 6 = .ok (.invokevirtual 122, 3) := by decide +kernel
theorem dX2_tellChoice_9 : decode cX2_tellChoice 9 = .ok (.ireturn, 1) := by decide +kernel
theorem dX2_takeRefusal_0 : decode cX2_takeRefusal 0 = .ok (.aload_n 1, 1) := by decide +kernel
theorem dX2_takeRefusal_1 : decode cX2_takeRefusal 1 = .ok (.ifnull 28, 3) := by decide +kernel
theorem dX2_takeRefusal_4 : decode cX2_takeRefusal 4 = .ok (.aload_n 1, 1) := by decide +kernel
theorem dX2_takeRefusal_5 : decode cX2_takeRefusal 5 = .ok (.getfield 75, 3) := by decide +kernel
theorem dX2_takeRefusal_8 : decode cX2_takeRefusal 8 = .ok (.iconst 2, 1) := by decide +kernel
theorem dX2_takeRefusal_9 : decode cX2_takeRefusal 9 = .ok (.if_icmp .eq 20, 3) := by decide +kernel
theorem dX2_takeRefusal_12 : decode cX2_takeRefusal 12 = .ok (.aload_n 1, 1) := by decide +kernel
theorem dX2_takeRefusal_13 : decode cX2_takeRefusal 13 = .ok (.getfield 126, 3) := by decide +kernel
theorem dX2_takeRefusal_16 : decode cX2_takeRefusal 16 = .ok (.ifCond .gt 13, 3) := by decide +kernel
theorem dX2_takeRefusal_19 : decode cX2_takeRefusal 19 = .ok (.iload_n 2, 1) := by decide +kernel
theorem dX2_takeRefusal_20 : decode cX2_takeRefusal 20 = .ok (.iconst 1, 1) := by decide +kernel
theorem dX2_takeRefusal_21 : decode cX2_takeRefusal 21 = .ok (.bipush 30, 2) := by decide +kernel
theorem dX2_takeRefusal_23 : decode cX2_takeRefusal 23 = .ok (.invokestatic 65, 3) := by decide +kernel
theorem dX2_takeRefusal_26 : decode cX2_takeRefusal 26 = .ok (.ifCond .ne 5, 3) := by decide +kernel
theorem dX2_takeRefusal_29 : decode cX2_takeRefusal 29 = .ok (.iconst (-1), 1) := by decide +kernel
theorem dX2_takeRefusal_30 : decode cX2_takeRefusal 30 = .ok (.ireturn, 1) := by decide +kernel
theorem dX2_takeRefusal_31 : decode cX2_takeRefusal 31 = .ok (.aload_n 1, 1) := by decide +kernel
theorem dX2_takeRefusal_32 : decode cX2_takeRefusal 32 = .ok (.iload_n 2, 1) := by decide +kernel
theorem dX2_takeRefusal_33 : decode cX2_takeRefusal 33 = .ok (.aload_n 0, 1) := by decide +kernel
theorem dX2_takeRefusal_34 : decode cX2_takeRefusal 34 = .ok (.aload_n 1, 1) := by decide +kernel
theorem dX2_takeRefusal_35 : decode cX2_takeRefusal 35 = .ok (.getfield 104, 3) := by decide +kernel
theorem dX2_takeRefusal_38 : decode cX2_takeRefusal 38 = .ok (.invokevirtual 129, 3) := by decide +kernel
theorem dX2_takeRefusal_41 : decode cX2_takeRefusal 41 = .ok (.iadd, 1) := by decide +kernel
theorem dX2_takeRefusal_42 : decode cX2_takeRefusal 42 = .ok (.putfield 126, 3) := by decide +kernel
theorem dX2_takeRefusal_45 : decode cX2_takeRefusal 45 = .ok (.aload_n 1, 1) := by decide +kernel
theorem dX2_takeRefusal_46 : decode cX2_takeRefusal 46 = .ok (.getfield 126, 3) := by decide +kernel
theorem dX2_takeRefusal_49 : decode cX2_takeRefusal 49 = .ok (.ireturn, 1) := by decide +kernel
theorem dX2_endMonth_0 : decode cX2_endMonth 0 = .ok (.aload_n 0, 1) := by decide +kernel
theorem dX2_endMonth_1 : decode cX2_endMonth 1 = .ok (.getfield 57, 3) := by decide +kernel
theorem dX2_endMonth_4 : decode cX2_endMonth 4 = .ok (.bipush 60, 2) := by decide +kernel
theorem dX2_endMonth_6 : decode cX2_endMonth 6 = .ok (.if_icmp .ge 16, 3) := by decide +kernel
theorem dX2_endMonth_9 : decode cX2_endMonth 9 = .ok (.aload_n 0, 1) := by decide +kernel
theorem dX2_endMonth_10 : decode cX2_endMonth 10 = .ok (.getfield 42, 3) := by decide +kernel
theorem dX2_endMonth_13 : decode cX2_endMonth 13 = .ok (.invokevirtual 91, 3) := by decide +kernel
theorem dX2_endMonth_16 : decode cX2_endMonth 16 = .ok (.sipush 200, 3) := by decide +kernel
theorem dX2_endMonth_19 : decode cX2_endMonth 19 = .ok (.if_icmp .ge 5, 3) := by decide +kernel
theorem dX2_endMonth_22 : decode cX2_endMonth 22 = .ok (.iconst (-1), 1) := by decide +kernel
theorem dX2_endMonth_23 : decode cX2_endMonth 23 = .ok (.ireturn, 1) := by decide +kernel
theorem dX2_endMonth_24 : decode cX2_endMonth 24 = .ok (.aload_n 0, 1) := by decide +kernel
theorem dX2_endMonth_25 : decode cX2_endMonth 25 = .ok (.invokevirtual 132, 3) := by decide +kernel
theorem dX2_endMonth_28 : decode cX2_endMonth 28 = .ok (.aload_n 0, 1) := by decide +kernel
theorem dX2_endMonth_29 : decode cX2_endMonth 29 = .ok (.invokevirtual 135, 3) := by decide +kernel
theorem dX2_endMonth_32 : decode cX2_endMonth 32 = .ok (.aload_n 0, 1) := by decide +kernel
theorem dX2_endMonth_33 : decode cX2_endMonth 33 = .ok (.getfield 49, 3) := by decide +kernel
theorem dX2_endMonth_36 : decode cX2_endMonth 36 = .ok (.getfield 138, 3) := by decide +kernel
theorem dX2_endMonth_39 : decode cX2_endMonth 39 = .ok (.istore_n 1, 1) := by decide +kernel
theorem dX2_endMonth_40 : decode cX2_endMonth 40 = .ok (.aload_n 0, 1) := by decide +kernel
theorem dX2_endMonth_41 : decode cX2_endMonth 41 = .ok (.invokevirtual 141, 3) := by decide +kernel
theorem dX2_endMonth_44 : decode cX2_endMonth 44 = .ok (.aload_n 0, 1) := by decide +kernel
theorem dX2_endMonth_45 : decode cX2_endMonth 45 = .ok (.invokevirtual 144, 3) := by decide +kernel
theorem dX2_endMonth_48 : decode cX2_endMonth 48 = .ok (.iload_n 1, 1) := by decide +kernel
theorem dX2_endMonth_49 : decode cX2_endMonth 49 = .ok (.ireturn, 1) := by decide +kernel
theorem dX2_takeBackRefused_0 : decode cX2_takeBackRefused 0 = .ok (.aload_n 0, 1) := by decide +kernel
theorem dX2_takeBackRefused_1 : decode cX2_takeBackRefused 1 = .ok (.aload_n 0, 1) := by decide +kernel
theorem dX2_takeBackRefused_2 : decode cX2_takeBackRefused 2 = .ok (.getfield 57, 3) := by decide +kernel
theorem dX2_takeBackRefused_5 : decode cX2_takeBackRefused 5 = .ok (.iconst 1, 1) := by decide +kernel
theorem dX2_takeBackRefused_6 : decode cX2_takeBackRefused 6 = .ok (.isub, 1) := by decide +kernel
theorem dX2_takeBackRefused_7 : decode cX2_takeBackRefused 7 = .ok (.invokevirtual 147, 3) := by decide +kernel
theorem dX2_takeBackRefused_10 : decode cX2_takeBackRefused 10 = .ok (.astore_n 1, 1) := by decide +kernel
theorem dX2_takeBackRefused_11 : decode cX2_takeBackRefused 11 = .ok (.aload_n 1, 1) := by decide +kernel
theorem dX2_takeBackRefused_12 : decode cX2_takeBackRefused 12 = .ok (.ifnonnull 4, 3) := by decide +kernel
theorem dX2_takeBackRefused_15 : decode cX2_takeBackRefused 15 = .ok (.return_, 1) := by decide +kernel
theorem dX2_takeBackRefused_16 : decode cX2_takeBackRefused 16 = .ok (.aload_n 1, 1) := by decide +kernel
theorem dX2_takeBackRefused_17 : decode cX2_takeBackRefused 17 = .ok (.aload_n 0, 1) := by decide +kernel
theorem dX2_takeBackRefused_18 : decode cX2_takeBackRefused 18 = .ok (.iconst 1, 1) := by decide +kernel
theorem dX2_takeBackRefused_19 : decode cX2_takeBackRefused 19 = .ok (.invokevirtual 87, 3) := by decide +kernel
theorem dX2_takeBackRefused_22 : decode cX2_takeBackRefused 22 = .ok (.invokevirtual 151, 3) := by decide +kernel
theorem dX2_takeBackRefused_25 : decode cX2_takeBackRefused 25 = .ok (.istore_n 2, 1) := by decide +kernel
theorem dX2_takeBackRefused_26 : decode cX2_takeBackRefused 26 = .ok (.iconst 0, 1) := by decide +kernel
theorem dX2_takeBackRefused_27 : decode cX2_takeBackRefused 27 = .ok (.istore_n 3, 1) := by decide +kernel
theorem dX2_takeBackRefused_28 : decode cX2_takeBackRefused 28 = .ok (.iload_n 3, 1) := by decide +kernel
theorem dX2_takeBackRefused_29 : decode cX2_takeBackRefused 29 = .ok (.aload_n 0, 1) := by decide +kernel
theorem dX2_takeBackRefused_30 : decode cX2_takeBackRefused 30 = .ok (.getfield 32, 3) := by decide +kernel
theorem dX2_takeBackRefused_33 : decode cX2_takeBackRefused 33 = .ok (.invokevirtual 61, 3) := by decide +kernel
theorem dX2_takeBackRefused_36 : decode cX2_takeBackRefused 36 = .ok (.if_icmp .ge 56, 3) := by decide +kernel
theorem dX2_takeBackRefused_39 : decode cX2_takeBackRefused 39 = .ok (.aload_n 0, 1) := by decide +kernel
theorem dX2_takeBackRefused_40 : decode cX2_takeBackRefused 40 = .ok (.getfield 32, 3) := by decide +kernel
theorem dX2_takeBackRefused_43 : decode cX2_takeBackRefused 43 = .ok (.iload_n 3, 1) := by decide +kernel
theorem dX2_takeBackRefused_44 : decode cX2_takeBackRefused 44 = .ok (.invokevirtual 69, 3) := by decide +kernel
theorem dX2_takeBackRefused_47 : decode cX2_takeBackRefused 47 = .ok (.checkcast 73, 3) := by decide +kernel
theorem dX2_takeBackRefused_50 : decode cX2_takeBackRefused 50 = .ok (.astore 4, 2) := by decide +kernel
theorem dX2_takeBackRefused_52 : decode cX2_takeBackRefused 52 = .ok (.aload 4, 2) := by decide +kernel
theorem dX2_takeBackRefused_54 : decode cX2_takeBackRefused 54 = .ok (.getfield 154, 3) := by decide +kernel
theorem dX2_takeBackRefused_57 : decode cX2_takeBackRefused 57 = .ok (.ifCond .eq 29, 3) := by decide +kernel
theorem dX2_takeBackRefused_60 : decode cX2_takeBackRefused 60 = .ok (.aload_n 1, 1) := by decide +kernel
theorem dX2_takeBackRefused_61 : decode cX2_takeBackRefused 61 = .ok (.invokevirtual 158, 3) := by decide +kernel
theorem dX2_takeBackRefused_64 : decode cX2_takeBackRefused 64 = .ok (.aload_n 0, 1) := by decide +kernel
theorem dX2_takeBackRefused_65 : decode cX2_takeBackRefused 65 = .ok (.aload 4, 2) := by decide +kernel
theorem dX2_takeBackRefused_67 : decode cX2_takeBackRefused 67 = .ok (.iconst 3, 1) := by decide +kernel
theorem dX2_takeBackRefused_68 : decode cX2_takeBackRefused 68 = .ok (.aload_n 1, 1) := by decide +kernel
theorem dX2_takeBackRefused_69 : decode cX2_takeBackRefused 69 = .ok (.getfield 161, 3) := by decide +kernel
theorem dX2_takeBackRefused_72 : decode cX2_takeBackRefused 72 = .ok (.i2l, 1) := by decide +kernel
theorem dX2_takeBackRefused_73 : decode cX2_takeBackRefused 73 = .ok (.invokevirtual 97, 3) := by decide +kernel
theorem dX2_takeBackRefused_76 : decode cX2_takeBackRefused 76 = .ok (.aload_n 0, 1) := by decide +kernel
theorem dX2_takeBackRefused_77 : decode cX2_takeBackRefused 77 = .ok (.aload 4, 2) := by decide +kernel
theorem dX2_takeBackRefused_79 : decode cX2_takeBackRefused 79 = .ok (.iconst 4, 1) := by decide +kernel
theorem dX2_takeBackRefused_80 : decode cX2_takeBackRefused 80 = .ok (.iload_n 2, 1) := by decide +kernel
theorem dX2_takeBackRefused_81 : decode cX2_takeBackRefused 81 = .ok (.ineg, 1) := by decide +kernel
theorem dX2_takeBackRefused_82 : decode cX2_takeBackRefused 82 = .ok (.i2l, 1) := by decide +kernel
theorem dX2_takeBackRefused_83 : decode cX2_takeBackRefused 83 = .ok (.invokevirtual 97, 3) := by decide +kernel
theorem dX2_takeBackRefused_86 : decode cX2_takeBackRefused 86 = .ok (.iinc 3 1, 3) := by decide +kernel
theorem dX2_takeBackRefused_89 : decode cX2_takeBackRefused 89 = .ok (.goto (-61), 3) := by decide +kernel
theorem dX2_takeBackRefused_92 : decode cX2_takeBackRefused 92 = .ok (.return_, 1) := by decide +kernel
theorem dX2_sendChoice_0 : decode cX2_sendChoice 0 = .ok (.aload_n 0, 1) := by decide +kernel
theorem dX2_sendChoice_1 : decode cX2_sendChoice 1 = .ok (.iconst 0, 1) := by decide +kernel
theorem dX2_sendChoice_2 : decode cX2_sendChoice 2 = .ok (.invokevirtual 87, 3) := by decide +kernel
theorem dX2_sendChoice_5 : decode cX2_sendChoice 5 = .ok (.istore_n 1, 1) := by decide +kernel
theorem dX2_sendChoice_6 : decode cX2_sendChoice 6 = .ok (.aload_n 0, 1) := by decide +kernel
theorem dX2_sendChoice_7 : decode cX2_sendChoice 7 = .ok (.iconst 2, 1) := by decide +kernel
theorem dX2_sendChoice_8 : decode cX2_sendChoice 8 = .ok (.invokevirtual 87, 3) := by decide +kernel
theorem dX2_sendChoice_11 : decode cX2_sendChoice 11 = .ok (.istore_n 2, 1) := by decide +kernel
theorem dX2_sendChoice_12 : decode cX2_sendChoice 12 = .ok (.aload_n 0, 1) := by decide +kernel
theorem dX2_sendChoice_13 : decode cX2_sendChoice 13 = .ok (.getfield 49, 3) := by decide +kernel
theorem dX2_sendChoice_16 : decode cX2_sendChoice 16 = .ok (.aload_n 0, 1) := by decide +kernel
theorem dX2_sendChoice_17 : decode cX2_sendChoice 17 = .ok (.bipush 7, 2) := by decide +kernel
theorem dX2_sendChoice_19 : decode cX2_sendChoice 19 = .ok (.invokevirtual 87, 3) := by decide +kernel
theorem dX2_sendChoice_22 : decode cX2_sendChoice 22 = .ok (.invokevirtual 151, 3) := by decide +kernel
theorem dX2_sendChoice_25 : decode cX2_sendChoice 25 = .ok (.istore_n 3, 1) := by decide +kernel
theorem dX2_sendChoice_26 : decode cX2_sendChoice 26 = .ok (.iconst 0, 1) := by decide +kernel
theorem dX2_sendChoice_27 : decode cX2_sendChoice 27 = .ok (.istore 4, 2) := by decide +kernel
theorem dX2_sendChoice_29 : decode cX2_sendChoice 29 = .ok (.iload 4, 2) := by decide +kernel
theorem dX2_sendChoice_31 : decode cX2_sendChoice 31 = .ok (.aload_n 0, 1) := by decide +kernel
theorem dX2_sendChoice_32 : decode cX2_sendChoice 32 = .ok (.getfield 32, 3) := by decide +kernel
theorem dX2_sendChoice_35 : decode cX2_sendChoice 35 = .ok (.invokevirtual 61, 3) := by decide +kernel
theorem dX2_sendChoice_38 : decode cX2_sendChoice 38 = .ok (.if_icmp .ge 53, 3) := by decide +kernel
theorem dX2_sendChoice_41 : decode cX2_sendChoice 41 = .ok (.aload_n 0, 1) := by decide +kernel
theorem dX2_sendChoice_42 : decode cX2_sendChoice 42 = .ok (.getfield 32, 3) := by decide +kernel
theorem dX2_sendChoice_45 : decode cX2_sendChoice 45 = .ok (.iload 4, 2) := by decide +kernel
theorem dX2_sendChoice_47 : decode cX2_sendChoice 47 = .ok (.invokevirtual 69, 3) := by decide +kernel
theorem dX2_sendChoice_50 : decode cX2_sendChoice 50 = .ok (.checkcast 73, 3) := by decide +kernel
theorem dX2_sendChoice_53 : decode cX2_sendChoice 53 = .ok (.astore 5, 2) := by decide +kernel
theorem dX2_sendChoice_55 : decode cX2_sendChoice 55 = .ok (.aload 5, 2) := by decide +kernel
theorem dX2_sendChoice_57 : decode cX2_sendChoice 57 = .ok (.invokevirtual 164, 3) := by decide +kernel
theorem dX2_sendChoice_60 : decode cX2_sendChoice 60 = .ok (.aload 5, 2) := by decide +kernel
theorem dX2_sendChoice_62 : decode cX2_sendChoice 62 = .ok (.getfield 75, 3) := by decide +kernel
theorem dX2_sendChoice_65 : decode cX2_sendChoice 65 = .ok (.ifCond .ne 20, 3) := by decide +kernel
theorem dX2_sendChoice_68 : decode cX2_sendChoice 68 = .ok (.aload 5, 2) := by decide +kernel
theorem dX2_sendChoice_70 : decode cX2_sendChoice 70 = .ok (.iload_n 1, 1) := by decide +kernel
theorem dX2_sendChoice_71 : decode cX2_sendChoice 71 = .ok (.invokevirtual 167, 3) := by decide +kernel
theorem dX2_sendChoice_74 : decode cX2_sendChoice 74 = .ok (.ifCond .ne 11, 3) := by decide +kernel
theorem dX2_sendChoice_77 : decode cX2_sendChoice 77 = .ok (.aload_n 0, 1) := by decide +kernel
theorem dX2_sendChoice_78 : decode cX2_sendChoice 78 = .ok (.aload 5, 2) := by decide +kernel
theorem dX2_sendChoice_80 : decode cX2_sendChoice 80 = .ok (.iload_n 2, 1) := by decide +kernel
theorem dX2_sendChoice_81 : decode cX2_sendChoice 81 = .ok (.iload_n 3, 1) := by decide +kernel
theorem dX2_sendChoice_82 : decode cX2_sendChoice 82 = .ok (.invokevirtual 170, 3) := by decide +kernel
theorem dX2_sendChoice_85 : decode cX2_sendChoice 85 = .ok (.iinc 4 1, 3) := by decide +kernel
theorem dX2_sendChoice_88 : decode cX2_sendChoice 88 = .ok (.goto (-59), 3) := by decide +kernel
theorem dX2_sendChoice_91 : decode cX2_sendChoice 91 = .ok (.return_, 1) := by decide +kernel
theorem dX2_sendTo_0 : decode cX2_sendTo 0 = .ok (.aload_n 0, 1) := by decide +kernel
theorem dX2_sendTo_1 : decode cX2_sendTo 1 = .ok (.getfield 49, 3) := by decide +kernel
theorem dX2_sendTo_4 : decode cX2_sendTo 4 = .ok (.getfield 174, 3) := by decide +kernel
theorem dX2_sendTo_7 : decode cX2_sendTo 7 = .ok (.ifCond .gt 22, 3) := by decide +kernel
theorem dX2_sendTo_10 : decode cX2_sendTo 10 = .ok (.aload_n 0, 1) := by decide +kernel
theorem dX2_sendTo_11 : decode cX2_sendTo 11 = .ok (.getfield 49, 3) := by decide +kernel
theorem dX2_sendTo_14 : decode cX2_sendTo 14 = .ok (.dup, 1) := by decide +kernel
theorem dX2_sendTo_15 : decode cX2_sendTo 15 = .ok (.getfield 177, 3) := by decide +kernel
theorem dX2_sendTo_18 : decode cX2_sendTo 18 = .ok (.iconst 1, 1) := by decide +kernel
theorem dX2_sendTo_19 : decode cX2_sendTo 19 = .ok (.iadd, 1) := by decide +kernel
theorem dX2_sendTo_20 : decode cX2_sendTo 20 = .ok (.putfield 177, 3) := by decide +kernel
theorem dX2_sendTo_23 : decode cX2_sendTo 23 = .ok (.aload_n 1, 1) := by decide +kernel
theorem dX2_sendTo_24 : decode cX2_sendTo 24 = .ok (.iconst 1, 1) := by decide +kernel
theorem dX2_sendTo_25 : decode cX2_sendTo 25 = .ok (.putfield 180, 3) := by decide +kernel
theorem dX2_sendTo_28 : decode cX2_sendTo 28 = .ok (.return_, 1) := by decide +kernel
theorem dX2_sendTo_29 : decode cX2_sendTo 29 = .ok (.aload_n 0, 1) := by decide +kernel
theorem dX2_sendTo_30 : decode cX2_sendTo 30 = .ok (.getfield 49, 3) := by decide +kernel
theorem dX2_sendTo_33 : decode cX2_sendTo 33 = .ok (.invokevirtual 183, 3) := by decide +kernel
theorem dX2_sendTo_36 : decode cX2_sendTo 36 = .ok (.aload_n 1, 1) := by decide +kernel
theorem dX2_sendTo_37 : decode cX2_sendTo 37 = .ok (.iconst 1, 1) := by decide +kernel
theorem dX2_sendTo_38 : decode cX2_sendTo 38 = .ok (.putfield 186, 3) := by decide +kernel
theorem dX2_sendTo_41 : decode cX2_sendTo 41 = .ok (.aload_n 1, 1) := by decide +kernel
theorem dX2_sendTo_42 : decode cX2_sendTo 42 = .ok (.aload_n 1, 1) := by decide +kernel
theorem dX2_sendTo_43 : decode cX2_sendTo 43 = .ok (.getfield 126, 3) := by decide +kernel
theorem dX2_sendTo_46 : decode cX2_sendTo 46 = .ok (.ifCond .le 7, 3) := by decide +kernel
theorem dX2_sendTo_49 : decode cX2_sendTo 49 = .ok (.iconst 1, 1) := by decide +kernel
theorem dX2_sendTo_50 : decode cX2_sendTo 50 = .ok (.goto 4, 3) := by decide +kernel
theorem dX2_sendTo_53 : decode cX2_sendTo 53 = .ok (.iconst 0, 1) := by decide +kernel
theorem dX2_sendTo_54 : decode cX2_sendTo 54 = .ok (.putfield 154, 3) := by decide +kernel
theorem dX2_sendTo_57 : decode cX2_sendTo 57 = .ok (.aload_n 1, 1) := by decide +kernel
theorem dX2_sendTo_58 : decode cX2_sendTo 58 = .ok (.dup, 1) := by decide +kernel
theorem dX2_sendTo_59 : decode cX2_sendTo 59 = .ok (.getfield 189, 3) := by decide +kernel
theorem dX2_sendTo_62 : decode cX2_sendTo 62 = .ok (.iconst 1, 1) := by decide +kernel
theorem dX2_sendTo_63 : decode cX2_sendTo 63 = .ok (.iadd, 1) := by decide +kernel
theorem dX2_sendTo_64 : decode cX2_sendTo 64 = .ok (.putfield 189, 3) := by decide +kernel
theorem dX2_sendTo_67 : decode cX2_sendTo 67 = .ok (.aload_n 0, 1) := by decide +kernel
theorem dX2_sendTo_68 : decode cX2_sendTo 68 = .ok (.aload_n 1, 1) := by decide +kernel
theorem dX2_sendTo_69 : decode cX2_sendTo 69 = .ok (.iconst 2, 1) := by decide +kernel
theorem dX2_sendTo_70 : decode cX2_sendTo 70 = .ok (.aload_n 0, 1) := by decide +kernel
theorem dX2_sendTo_71 : decode cX2_sendTo 71 = .ok (.getfield 49, 3) := by decide +kernel
theorem dX2_sendTo_74 : decode cX2_sendTo 74 = .ok (.getfield 161, 3) := by decide +kernel
theorem dX2_sendTo_77 : decode cX2_sendTo 77 = .ok (.ineg, 1) := by decide +kernel
theorem dX2_sendTo_78 : decode cX2_sendTo 78 = .ok (.i2l, 1) := by decide +kernel
theorem dX2_sendTo_79 : decode cX2_sendTo 79 = .ok (.invokevirtual 97, 3) := by decide +kernel
theorem dX2_sendTo_82 : decode cX2_sendTo 82 = .ok (.iload_n 2, 1) := by decide +kernel
theorem dX2_sendTo_83 : decode cX2_sendTo 83 = .ok (.ifCond .le 20, 3) := by decide +kernel
theorem dX2_sendTo_86 : decode cX2_sendTo 86 = .ok (.aload_n 1, 1) := by decide +kernel
theorem dX2_sendTo_87 : decode cX2_sendTo 87 = .ok (.getfield 189, 3) := by decide +kernel
theorem dX2_sendTo_90 : decode cX2_sendTo 90 = .ok (.iload_n 2, 1) := by decide +kernel
theorem dX2_sendTo_91 : decode cX2_sendTo 91 = .ok (.irem, 1) := by decide +kernel
theorem dX2_sendTo_92 : decode cX2_sendTo 92 = .ok (.ifCond .ne 11, 3) := by decide +kernel
theorem dX2_sendTo_95 : decode cX2_sendTo 95 = .ok (.aload_n 0, 1) := by decide +kernel
theorem dX2_sendTo_96 : decode cX2_sendTo 96 = .ok (.aload_n 1, 1) := by decide +kernel
theorem dX2_sendTo_97 : decode cX2_sendTo 97 = .ok (.iconst 5, 1) := by decide +kernel
theorem dX2_sendTo_98 : decode cX2_sendTo 98 = .ok (.iload_n 3, 1) := by decide +kernel
theorem dX2_sendTo_99 : decode cX2_sendTo 99 = .ok (.i2l, 1) := by decide +kernel
theorem dX2_sendTo_100 : decode cX2_sendTo 100 = .ok (.invokevirtual 97, 3) := by decide +kernel
theorem dX2_sendTo_103 : decode cX2_sendTo 103 = .ok (.return_, 1) := by decide +kernel
theorem dX2_judgeDebts_0 : decode cX2_judgeDebts 0 = .ok (.aload_n 0, 1) := by decide +kernel
theorem dX2_judgeDebts_1 : decode cX2_judgeDebts 1 = .ok (.iconst 4, 1) := by decide +kernel
theorem dX2_judgeDebts_2 : decode cX2_judgeDebts 2 = .ok (.invokevirtual 87, 3) := by decide +kernel
theorem dX2_judgeDebts_5 : decode cX2_judgeDebts 5 = .ok (.istore_n 1, 1) := by decide +kernel
theorem dX2_judgeDebts_6 : decode cX2_judgeDebts 6 = .ok (.aload_n 0, 1) := by decide +kernel
theorem dX2_judgeDebts_7 : decode cX2_judgeDebts 7 = .ok (.iconst 5, 1) := by decide +kernel
theorem dX2_judgeDebts_8 : decode cX2_judgeDebts 8 = .ok (.invokevirtual 87, 3) := by decide +kernel
theorem dX2_judgeDebts_11 : decode cX2_judgeDebts 11 = .ok (.istore_n 2, 1) := by decide +kernel
theorem dX2_judgeDebts_12 : decode cX2_judgeDebts 12 = .ok (.aload_n 0, 1) := by decide +kernel
theorem dX2_judgeDebts_13 : decode cX2_judgeDebts 13 = .ok (.bipush 6, 2) := by decide +kernel
theorem dX2_judgeDebts_15 : decode cX2_judgeDebts 15 = .ok (.invokevirtual 87, 3) := by decide +kernel
theorem dX2_judgeDebts_18 : decode cX2_judgeDebts 18 = .ok (.istore_n 3, 1) := by decide +kernel
theorem dX2_judgeDebts_19 : decode cX2_judgeDebts 19 = .ok (.iconst 0, 1) := by decide +kernel
theorem dX2_judgeDebts_20 : decode cX2_judgeDebts 20 = .ok (.istore 4, 2) := by decide +kernel
theorem dX2_judgeDebts_22 : decode cX2_judgeDebts 22 = .ok (.iload 4, 2) := by decide +kernel
theorem dX2_judgeDebts_24 : decode cX2_judgeDebts 24 = .ok (.aload_n 0, 1) := by decide +kernel
theorem dX2_judgeDebts_25 : decode cX2_judgeDebts 25 = .ok (.getfield 32, 3) := by decide +kernel
theorem dX2_judgeDebts_28 : decode cX2_judgeDebts 28 = .ok (.invokevirtual 61, 3) := by decide +kernel
theorem dX2_judgeDebts_31 : decode cX2_judgeDebts 31 = .ok (.if_icmp .ge 40, 3) := by decide +kernel
theorem dX2_judgeDebts_34 : decode cX2_judgeDebts 34 = .ok (.aload_n 0, 1) := by decide +kernel
theorem dX2_judgeDebts_35 : decode cX2_judgeDebts 35 = .ok (.getfield 32, 3) := by decide +kernel
theorem dX2_judgeDebts_38 : decode cX2_judgeDebts 38 = .ok (.iload 4, 2) := by decide +kernel
theorem dX2_judgeDebts_40 : decode cX2_judgeDebts 40 = .ok (.invokevirtual 69, 3) := by decide +kernel
theorem dX2_judgeDebts_43 : decode cX2_judgeDebts 43 = .ok (.checkcast 73, 3) := by decide +kernel
theorem dX2_judgeDebts_46 : decode cX2_judgeDebts 46 = .ok (.astore 5, 2) := by decide +kernel
theorem dX2_judgeDebts_48 : decode cX2_judgeDebts 48 = .ok (.aload 5, 2) := by decide +kernel
theorem dX2_judgeDebts_50 : decode cX2_judgeDebts 50 = .ok (.getfield 75, 3) := by decide +kernel
theorem dX2_judgeDebts_53 : decode cX2_judgeDebts 53 = .ok (.iconst 2, 1) := by decide +kernel
theorem dX2_judgeDebts_54 : decode cX2_judgeDebts 54 = .ok (.if_icmp .eq 11, 3) := by decide +kernel
theorem dX2_judgeDebts_57 : decode cX2_judgeDebts 57 = .ok (.aload 5, 2) := by decide +kernel
theorem dX2_judgeDebts_59 : decode cX2_judgeDebts 59 = .ok (.iload_n 1, 1) := by decide +kernel
theorem dX2_judgeDebts_60 : decode cX2_judgeDebts 60 = .ok (.iload_n 2, 1) := by decide +kernel
theorem dX2_judgeDebts_61 : decode cX2_judgeDebts 61 = .ok (.iload_n 3, 1) := by decide +kernel
theorem dX2_judgeDebts_62 : decode cX2_judgeDebts 62 = .ok (.invokestatic 192, 3) := by decide +kernel
theorem dX2_judgeDebts_65 : decode cX2_judgeDebts 65 = .ok (.iinc 4 1, 3) := by decide +kernel
theorem dX2_judgeDebts_68 : decode cX2_judgeDebts 68 = .ok (.goto (-46), 3) := by decide +kernel
theorem dX2_judgeDebts_71 : decode cX2_judgeDebts 71 = .ok (.return_, 1) := by decide +kernel
theorem dX2_judgeDebt_0 : decode cX2_judgeDebt 0 = .ok (.aload_n 0, 1) := by decide +kernel
theorem dX2_judgeDebt_1 : decode cX2_judgeDebt 1 = .ok (.iload_n 1, 1) := by decide +kernel
theorem dX2_judgeDebt_2 : decode cX2_judgeDebt 2 = .ok (.invokevirtual 110, 3) := by decide +kernel
theorem dX2_judgeDebt_5 : decode cX2_judgeDebt 5 = .ok (.ifCond .eq 16, 3) := by decide +kernel
theorem dX2_judgeDebt_8 : decode cX2_judgeDebt 8 = .ok (.aload_n 0, 1) := by decide +kernel
theorem dX2_judgeDebt_9 : decode cX2_judgeDebt 9 = .ok (.dup, 1) := by decide +kernel
theorem dX2_judgeDebt_10 : decode cX2_judgeDebt 10 = .ok (.getfield 196, 3) := by decide +kernel
theorem dX2_judgeDebt_13 : decode cX2_judgeDebt 13 = .ok (.iconst 1, 1) := by decide +kernel
theorem dX2_judgeDebt_14 : decode cX2_judgeDebt 14 = .ok (.iadd, 1) := by decide +kernel
theorem dX2_judgeDebt_15 : decode cX2_judgeDebt 15 = .ok (.putfield 196, 3) := by decide +kernel
theorem dX2_judgeDebt_18 : decode cX2_judgeDebt 18 = .ok (.goto 7, 3) := by decide +kernel
theorem dX2_judgeDebt_21 : decode cX2_judgeDebt 21 = .ok (.aload_n 0, 1) := by decide +kernel
theorem dX2_judgeDebt_22 : decode cX2_judgeDebt 22 = .ok (.invokevirtual 113, 3) := by decide +kernel
theorem dX2_judgeDebt_25 : decode cX2_judgeDebt 25 = .ok (.iload_n 3, 1) := by decide +kernel
theorem dX2_judgeDebt_26 : decode cX2_judgeDebt 26 = .ok (.ifCond .le 19, 3) := by decide +kernel
theorem dX2_judgeDebt_29 : decode cX2_judgeDebt 29 = .ok (.aload_n 0, 1) := by decide +kernel
theorem dX2_judgeDebt_30 : decode cX2_judgeDebt 30 = .ok (.getfield 196, 3) := by decide +kernel
theorem dX2_judgeDebt_33 : decode cX2_judgeDebt 33 = .ok (.iload_n 3, 1) := by decide +kernel
theorem dX2_judgeDebt_34 : decode cX2_judgeDebt 34 = .ok (.if_icmp .lt 11, 3) := by decide +kernel
theorem dX2_judgeDebt_37 : decode cX2_judgeDebt 37 = .ok (.aload_n 0, 1) := by decide +kernel
theorem dX2_judgeDebt_38 : decode cX2_judgeDebt 38 = .ok (.iconst 2, 1) := by decide +kernel
theorem dX2_judgeDebt_39 : decode cX2_judgeDebt 39 = .ok (.putfield 75, 3) := by decide +kernel
theorem dX2_judgeDebt_42 : decode cX2_judgeDebt 42 = .ok (.goto 20, 3) := by decide +kernel
theorem dX2_judgeDebt_45 : decode cX2_judgeDebt 45 = .ok (.iload_n 2, 1) := by decide +kernel
theorem dX2_judgeDebt_46 : decode cX2_judgeDebt 46 = .ok (.ifCond .le 16, 3) := by decide +kernel
theorem dX2_judgeDebt_49 : decode cX2_judgeDebt 49 = .ok (.aload_n 0, 1) := by decide +kernel
theorem dX2_judgeDebt_50 : decode cX2_judgeDebt 50 = .ok (.getfield 196, 3) := by decide +kernel
theorem dX2_judgeDebt_53 : decode cX2_judgeDebt 53 = .ok (.iload_n 2, 1) := by decide +kernel
theorem dX2_judgeDebt_54 : decode cX2_judgeDebt 54 = .ok (.if_icmp .lt 8, 3) := by decide +kernel
theorem dX2_judgeDebt_57 : decode cX2_judgeDebt 57 = .ok (.aload_n 0, 1) := by decide +kernel
theorem dX2_judgeDebt_58 : decode cX2_judgeDebt 58 = .ok (.iconst 1, 1) := by decide +kernel
theorem dX2_judgeDebt_59 : decode cX2_judgeDebt 59 = .ok (.putfield 75, 3) := by decide +kernel
theorem dX2_judgeDebt_62 : decode cX2_judgeDebt 62 = .ok (.return_, 1) := by decide +kernel
theorem dX2_beginNextMonth_0 : decode cX2_beginNextMonth 0 = .ok (.aload_n 0, 1) := by decide +kernel
theorem dX2_beginNextMonth_1 : decode cX2_beginNextMonth 1 = .ok (.dup, 1) := by decide +kernel
theorem dX2_beginNextMonth_2 : decode cX2_beginNextMonth 2 = .ok (.getfield 57, 3) := by decide +kernel
theorem dX2_beginNextMonth_5 : decode cX2_beginNextMonth 5 = .ok (.iconst 1, 1) := by decide +kernel
theorem dX2_beginNextMonth_6 : decode cX2_beginNextMonth 6 = .ok (.iadd, 1) := by decide +kernel
theorem dX2_beginNextMonth_7 : decode cX2_beginNextMonth 7 = .ok (.putfield 57, 3) := by decide +kernel
theorem dX2_beginNextMonth_10 : decode cX2_beginNextMonth 10 = .ok (.aload_n 0, 1) := by decide +kernel
theorem dX2_beginNextMonth_11 : decode cX2_beginNextMonth 11 = .ok (.new 46, 3) := by decide +kernel
theorem dX2_beginNextMonth_14 : decode cX2_beginNextMonth 14 = .ok (.dup, 1) := by decide +kernel
theorem dX2_beginNextMonth_15 : decode cX2_beginNextMonth 15 = .ok (.invokespecial 48, 3) := by decide +kernel
theorem dX2_beginNextMonth_18 : decode cX2_beginNextMonth 18 = .ok (.putfield 49, 3) := by decide +kernel
theorem dX2_beginNextMonth_21 : decode cX2_beginNextMonth 21 = .ok (.aload_n 0, 1) := by decide +kernel
theorem dX2_beginNextMonth_22 : decode cX2_beginNextMonth 22 = .ok (.getfield 36, 3) := by decide +kernel
theorem dX2_beginNextMonth_25 : decode cX2_beginNextMonth 25 = .ok (.aload_n 0, 1) := by decide +kernel
theorem dX2_beginNextMonth_26 : decode cX2_beginNextMonth 26 = .ok (.getfield 49, 3) := by decide +kernel
theorem dX2_beginNextMonth_29 : decode cX2_beginNextMonth 29 = .ok (.invokevirtual 53, 3) := by decide +kernel
theorem dX2_beginNextMonth_32 : decode cX2_beginNextMonth 32 = .ok (.pop, 1) := by decide +kernel
theorem dX2_beginNextMonth_33 : decode cX2_beginNextMonth 33 = .ok (.iconst 0, 1) := by decide +kernel
theorem dX2_beginNextMonth_34 : decode cX2_beginNextMonth 34 = .ok (.istore_n 1, 1) := by decide +kernel
theorem dX2_beginNextMonth_35 : decode cX2_beginNextMonth 35 = .ok (.iload_n 1, 1) := by decide +kernel
theorem dX2_beginNextMonth_36 : decode cX2_beginNextMonth 36 = .ok (.aload_n 0, 1) := by decide +kernel
theorem dX2_beginNextMonth_37 : decode cX2_beginNextMonth 37 = .ok (.getfield 32, 3) := by decide +kernel
theorem dX2_beginNextMonth_40 : decode cX2_beginNextMonth 40 = .ok (.invokevirtual 61, 3) := by decide +kernel
theorem dX2_beginNextMonth_43 : decode cX2_beginNextMonth 43 = .ok (.if_icmp .ge 24, 3) := by decide +kernel
theorem dX2_beginNextMonth_46 : decode cX2_beginNextMonth 46 = .ok (.aload_n 0, 1) := by decide +kernel
theorem dX2_beginNextMonth_47 : decode cX2_beginNextMonth 47 = .ok (.getfield 32, 3) := by decide +kernel
theorem dX2_beginNextMonth_50 : decode cX2_beginNextMonth 50 = .ok (.iload_n 1, 1) := by decide +kernel
theorem dX2_beginNextMonth_51 : decode cX2_beginNextMonth 51 = .ok (.invokevirtual 69, 3) := by decide +kernel
theorem dX2_beginNextMonth_54 : decode cX2_beginNextMonth 54 = .ok (.checkcast 73, 3) := by decide +kernel
theorem dX2_beginNextMonth_57 : decode cX2_beginNextMonth 57 = .ok (.iconst 0, 1) := by decide +kernel
theorem dX2_beginNextMonth_58 : decode cX2_beginNextMonth 58 = .ok (.putfield 126, 3) := by decide +kernel
theorem dX2_beginNextMonth_61 : decode cX2_beginNextMonth 61 = .ok (.iinc 1 1, 3) := by decide +kernel
theorem dX2_beginNextMonth_64 : decode cX2_beginNextMonth 64 = .ok (.goto (-29), 3) := by decide +kernel
theorem dX2_beginNextMonth_67 : decode cX2_beginNextMonth 67 = .ok (.return_, 1) := by decide +kernel
theorem dX2_inForceNow_0 : decode cX2_inForceNow 0 = .ok (.aload_n 0, 1) := by decide +kernel
theorem dX2_inForceNow_1 : decode cX2_inForceNow 1 = .ok (.getfield 9, 3) := by decide +kernel
theorem dX2_inForceNow_4 : decode cX2_inForceNow 4 = .ok (.iload_n 1, 1) := by decide +kernel
theorem dX2_inForceNow_5 : decode cX2_inForceNow 5 = .ok (.aload_n 0, 1) := by decide +kernel
theorem dX2_inForceNow_6 : decode cX2_inForceNow 6 = .ok (.getfield 57, 3) := by decide +kernel
theorem dX2_inForceNow_9 : decode cX2_inForceNow 9 = .ok (.invokevirtual 199, 3) := by decide +kernel
theorem dX2_inForceNow_12 : decode cX2_inForceNow 12 = .ok (.ireturn, 1) := by decide +kernel
theorem dX2_write_0 : decode cX2_write 0 = .ok (.aload_n 0, 1) := by decide +kernel
theorem dX2_write_1 : decode cX2_write 1 = .ok (.getfield 42, 3) := by decide +kernel
theorem dX2_write_4 : decode cX2_write 4 = .ok (.aload_n 1, 1) := by decide +kernel
theorem dX2_write_5 : decode cX2_write 5 = .ok (.aload_n 0, 1) := by decide +kernel
theorem dX2_write_6 : decode cX2_write 6 = .ok (.getfield 57, 3) := by decide +kernel
theorem dX2_write_9 : decode cX2_write 9 = .ok (.iload_n 2, 1) := by decide +kernel
theorem dX2_write_10 : decode cX2_write 10 = .ok (.lload_n 3, 1) := by decide +kernel
theorem dX2_write_11 : decode cX2_write 11 = .ok (.invokevirtual 204, 3) := by decide +kernel
theorem dX2_write_14 : decode cX2_write 14 = .ok (.return_, 1) := by decide +kernel
theorem dX2_lagOf_0 : decode cX2_lagOf 0 = .ok (.iload_n 1, 1) := by decide +kernel
theorem dX2_lagOf_1 : decode cX2_lagOf 1 = .ok (.invokestatic 78, 3) := by decide +kernel
theorem dX2_lagOf_4 : decode cX2_lagOf 4 = .ok (.ifCond .eq 12, 3) := by decide +kernel
theorem dX2_lagOf_7 : decode cX2_lagOf 7 = .ok (.aload_n 0, 1) := by decide +kernel
theorem dX2_lagOf_8 : decode cX2_lagOf 8 = .ok (.getfield 15, 3) := by decide +kernel
theorem dX2_lagOf_11 : decode cX2_lagOf 11 = .ok (.iload_n 1, 1) := by decide +kernel
theorem dX2_lagOf_12 : decode cX2_lagOf 12 = .ok (.iaload, 1) := by decide +kernel
theorem dX2_lagOf_13 : decode cX2_lagOf 13 = .ok (.goto 4, 3) := by decide +kernel
theorem dX2_lagOf_16 : decode cX2_lagOf 16 = .ok (.iconst 2, 1) := by decide +kernel
theorem dX2_lagOf_17 : decode cX2_lagOf 17 = .ok (.ireturn, 1) := by decide +kernel
theorem dX2_isHouse_0 : decode cX2_isHouse 0 = .ok (.iload_n 0, 1) := by decide +kernel
theorem dX2_isHouse_1 : decode cX2_isHouse 1 = .ok (.iconst 0, 1) := by decide +kernel
theorem dX2_isHouse_2 : decode cX2_isHouse 2 = .ok (.bipush 9, 2) := by decide +kernel
theorem dX2_isHouse_4 : decode cX2_isHouse 4 = .ok (.invokestatic 65, 3) := by decide +kernel
theorem dX2_isHouse_7 : decode cX2_isHouse 7 = .ok (.ireturn, 1) := by decide +kernel
theorem dX3_init_0 : decode cX3_init 0 = .ok (.aload_n 0, 1) := by decide +kernel
theorem dX3_init_1 : decode cX3_init 1 = .ok (.invokespecial 3, 3) := by decide +kernel
theorem dX3_init_4 : decode cX3_init 4 = .ok (.aload_n 0, 1) := by decide +kernel
theorem dX3_init_5 : decode cX3_init 5 = .ok (.aload_n 1, 1) := by decide +kernel
theorem dX3_init_6 : decode cX3_init 6 = .ok (.putfield 9, 3) := by decide +kernel
theorem dX3_init_9 : decode cX3_init 9 = .ok (.aload_n 0, 1) := by decide +kernel
theorem dX3_init_10 : decode cX3_init 10 = .ok (.iload_n 2, 1) := by decide +kernel
theorem dX3_init_11 : decode cX3_init 11 = .ok (.putfield 15, 3) := by decide +kernel
theorem dX3_init_14 : decode cX3_init 14 = .ok (.aload_n 0, 1) := by decide +kernel
theorem dX3_init_15 : decode cX3_init 15 = .ok (.iload_n 3, 1) := by decide +kernel
theorem dX3_init_16 : decode cX3_init 16 = .ok (.putfield 19, 3) := by decide +kernel
theorem dX3_init_19 : decode cX3_init 19 = .ok (.aload_n 0, 1) := by decide +kernel
theorem dX3_init_20 : decode cX3_init 20 = .ok (.lload 4, 2) := by decide +kernel
theorem dX3_init_22 : decode cX3_init 22 = .ok (.putfield 22, 3) := by decide +kernel
theorem dX3_init_25 : decode cX3_init 25 = .ok (.aload_n 0, 1) := by decide +kernel
theorem dX3_init_26 : decode cX3_init 26 = .ok (.iconst (-1), 1) := by decide +kernel
theorem dX3_init_27 : decode cX3_init 27 = .ok (.putfield 26, 3) := by decide +kernel
theorem dX3_init_30 : decode cX3_init 30 = .ok (.return_, 1) := by decide +kernel
theorem dX3_strikeOut_0 : decode cX3_strikeOut 0 = .ok (.aload_n 0, 1) := by decide +kernel
theorem dX3_strikeOut_1 : decode cX3_strikeOut 1 = .ok (.getfield 26, 3) := by decide +kernel
theorem dX3_strikeOut_4 : decode cX3_strikeOut 4 = .ok (.iconst (-1), 1) := by decide +kernel
theorem dX3_strikeOut_5 : decode cX3_strikeOut 5 = .ok (.if_icmp .eq 5, 3) := by decide +kernel
theorem dX3_strikeOut_8 : decode cX3_strikeOut 8 = .ok (.iconst 0, 1) := by decide +kernel
theorem dX3_strikeOut_9 : decode cX3_strikeOut 9 = .ok (.ireturn, 1) := by decide +kernel
theorem dX3_strikeOut_10 : decode cX3_strikeOut 10 = .ok (.aload_n 0, 1) := by decide +kernel
theorem dX3_strikeOut_11 : decode cX3_strikeOut 11 = .ok (.iload_n 1, 1) := by decide +kernel
theorem dX3_strikeOut_12 : decode cX3_strikeOut 12 = .ok (.putfield 26, 3) := by decide +kernel
theorem dX3_strikeOut_15 : decode cX3_strikeOut 15 = .ok (.aload_n 0, 1) := by decide +kernel
theorem dX3_strikeOut_16 : decode cX3_strikeOut 16 = .ok (.getfield 9, 3) := by decide +kernel
theorem dX3_strikeOut_19 : decode cX3_strikeOut 19 = .ok (.dup, 1) := by decide +kernel
theorem dX3_strikeOut_20 : decode cX3_strikeOut 20 = .ok (.getfield 29, 3) := by decide +kernel
theorem dX3_strikeOut_23 : decode cX3_strikeOut 23 = .ok (.aload_n 0, 1) := by decide +kernel
theorem dX3_strikeOut_24 : decode cX3_strikeOut 24 = .ok (.getfield 22, 3) := by decide +kernel
theorem dX3_strikeOut_27 : decode cX3_strikeOut 27 = .ok (.lsub, 1) := by decide +kernel
theorem dX3_strikeOut_28 : decode cX3_strikeOut 28 = .ok (.putfield 29, 3) := by decide +kernel
theorem dX3_strikeOut_31 : decode cX3_strikeOut 31 = .ok (.iconst 1, 1) := by decide +kernel
theorem dX3_strikeOut_32 : decode cX3_strikeOut 32 = .ok (.ireturn, 1) := by decide +kernel
theorem dX3_isStruckBy_0 : decode cX3_isStruckBy 0 = .ok (.aload_n 0, 1) := by decide +kernel
theorem dX3_isStruckBy_1 : decode cX3_isStruckBy 1 = .ok (.getfield 26, 3) := by decide +kernel
theorem dX3_isStruckBy_4 : decode cX3_isStruckBy 4 = .ok (.iconst (-1), 1) := by decide +kernel
theorem dX3_isStruckBy_5 : decode cX3_isStruckBy 5 = .ok (.if_icmp .eq 15, 3) := by decide +kernel
theorem dX3_isStruckBy_8 : decode cX3_isStruckBy 8 = .ok (.aload_n 0, 1) := by decide +kernel
theorem dX3_isStruckBy_9 : decode cX3_isStruckBy 9 = .ok (.getfield 26, 3) := by decide +kernel
theorem dX3_isStruckBy_12 : decode cX3_isStruckBy 12 = .ok (.iload_n 1, 1) := by decide +kernel
theorem dX3_isStruckBy_13 : decode cX3_isStruckBy 13 = .ok (.if_icmp .gt 7, 3) := by decide +kernel
theorem dX3_isStruckBy_16 : decode cX3_isStruckBy 16 = .ok (.iconst 1, 1) := by decide +kernel
theorem dX3_isStruckBy_17 : decode cX3_isStruckBy 17 = .ok (.goto 4, 3) := by decide +kernel
theorem dX3_isStruckBy_20 : decode cX3_isStruckBy 20 = .ok (.iconst 0, 1) := by decide +kernel
theorem dX3_isStruckBy_21 : decode cX3_isStruckBy 21 = .ok (.ireturn, 1) := by decide +kernel
theorem dX4_init_0 : decode cX4_init 0 = .ok (.aload_n 0, 1) := by decide +kernel
theorem dX4_init_1 : decode cX4_init 1 = .ok (.invokespecial 3, 3) := by decide +kernel
theorem dX4_init_4 : decode cX4_init 4 = .ok (.aload_n 0, 1) := by decide +kernel
theorem dX4_init_5 : decode cX4_init 5 = .ok (.sipush 180, 3) := by decide +kernel
theorem dX4_init_8 : decode cX4_init 8 = .ok (.newarray .int, 2) := by decide +kernel
theorem dX4_init_10 : decode cX4_init 10 = .ok (.putfield 11, 3) := by decide +kernel
theorem dX4_init_13 : decode cX4_init 13 = .ok (.aload_n 0, 1) := by decide +kernel
theorem dX4_init_14 : decode cX4_init 14 = .ok (.getfield 11, 3) := by decide +kernel
theorem dX4_init_17 : decode cX4_init 17 = .ok (.iconst (-1), 1) := by decide +kernel
theorem dX4_init_18 : decode cX4_init 18 = .ok (.invokestatic 15, 3) := by decide +kernel
theorem dX4_init_21 : decode cX4_init 21 = .ok (.aload_n 0, 1) := by decide +kernel
theorem dX4_init_22 : decode cX4_init 22 = .ok (.sipush 180, 3) := by decide +kernel
theorem dX4_init_25 : decode cX4_init 25 = .ok (.newarray .boolean, 2) := by decide +kernel
theorem dX4_init_27 : decode cX4_init 27 = .ok (.putfield 21, 3) := by decide +kernel
theorem dX4_init_30 : decode cX4_init 30 = .ok (.aload_n 0, 1) := by decide +kernel
theorem dX4_init_31 : decode cX4_init 31 = .ok (.bipush 11, 2) := by decide +kernel
theorem dX4_init_33 : decode cX4_init 33 = .ok (.newarray .int, 2) := by decide +kernel
theorem dX4_init_35 : decode cX4_init 35 = .ok (.putfield 25, 3) := by decide +kernel
theorem dX4_init_38 : decode cX4_init 38 = .ok (.return_, 1) := by decide +kernel
theorem dX4_setMark_0 : decode cX4_setMark 0 = .ok (.iload_n 1, 1) := by decide +kernel
theorem dX4_setMark_1 : decode cX4_setMark 1 = .ok (.iload_n 2, 1) := by decide +kernel
theorem dX4_setMark_2 : decode cX4_setMark 2 = .ok (.invokestatic 28, 3) := by decide +kernel
theorem dX4_setMark_5 : decode cX4_setMark 5 = .ok (.ifCond .eq 13, 3) := by decide +kernel
theorem dX4_setMark_8 : decode cX4_setMark 8 = .ok (.iload_n 3, 1) := by decide +kernel
theorem dX4_setMark_9 : decode cX4_setMark 9 = .ok (.iconst (-1), 1) := by decide +kernel
theorem dX4_setMark_10 : decode cX4_setMark 10 = .ok (.bipush 10, 2) := by decide +kernel
theorem dX4_setMark_12 : decode cX4_setMark 12 = .ok (.invokestatic 32, 3) := by decide +kernel
theorem dX4_setMark_15 : decode cX4_setMark 15 = .ok (.ifCond .ne 5, 3) := by decide +kernel
theorem dX4_setMark_18 : decode cX4_setMark 18 = .ok (.iconst 0, 1) := by decide +kernel
theorem dX4_setMark_19 : decode cX4_setMark 19 = .ok (.ireturn, 1) := by decide +kernel
theorem dX4_setMark_20 : decode cX4_setMark 20 = .ok (.aload_n 0, 1) := by decide +kernel
theorem dX4_setMark_21 : decode cX4_setMark 21 = .ok (.getfield 11, 3) := by decide +kernel
theorem dX4_setMark_24 : decode cX4_setMark 24 = .ok (.iload_n 1, 1) := by decide +kernel
theorem dX4_setMark_25 : decode cX4_setMark 25 = .ok (.iload_n 2, 1) := by decide +kernel
theorem dX4_setMark_26 : decode cX4_setMark 26 = .ok (.invokestatic 36, 3) := by decide +kernel
theorem dX4_setMark_29 : decode cX4_setMark 29 = .ok (.iload_n 3, 1) := by decide +kernel
theorem dX4_setMark_30 : decode cX4_setMark 30 = .ok (.iastore, 1) := by decide +kernel
theorem dX4_setMark_31 : decode cX4_setMark 31 = .ok (.iconst 1, 1) := by decide +kernel
theorem dX4_setMark_32 : decode cX4_setMark 32 = .ok (.ireturn, 1) := by decide +kernel
theorem dX4_setKin_0 : decode cX4_setKin 0 = .ok (.iload_n 1, 1) := by decide +kernel
theorem dX4_setKin_1 : decode cX4_setKin 1 = .ok (.iload_n 2, 1) := by decide +kernel
theorem dX4_setKin_2 : decode cX4_setKin 2 = .ok (.invokestatic 28, 3) := by decide +kernel
theorem dX4_setKin_5 : decode cX4_setKin 5 = .ok (.ifCond .ne 5, 3) := by decide +kernel
theorem dX4_setKin_8 : decode cX4_setKin 8 = .ok (.iconst 0, 1) := by decide +kernel
theorem dX4_setKin_9 : decode cX4_setKin 9 = .ok (.ireturn, 1) := by decide +kernel
theorem dX4_setKin_10 : decode cX4_setKin 10 = .ok (.aload_n 0, 1) := by decide +kernel
theorem dX4_setKin_11 : decode cX4_setKin 11 = .ok (.getfield 21, 3) := by decide +kernel
theorem dX4_setKin_14 : decode cX4_setKin 14 = .ok (.iload_n 1, 1) := by decide +kernel
theorem dX4_setKin_15 : decode cX4_setKin 15 = .ok (.iload_n 2, 1) := by decide +kernel
theorem dX4_setKin_16 : decode cX4_setKin 16 = .ok (.invokestatic 36, 3) := by decide +kernel
theorem dX4_setKin_19 : decode cX4_setKin 19 = .ok (.iload_n 3, 1) := by decide +kernel
theorem dX4_setKin_20 : decode cX4_setKin 20 = .ok (.bastore, 1) := by decide +kernel
theorem dX4_setKin_21 : decode cX4_setKin 21 = .ok (.iconst 1, 1) := by decide +kernel
theorem dX4_setKin_22 : decode cX4_setKin 22 = .ok (.ireturn, 1) := by decide +kernel
theorem dX4_middleOf_0 : decode cX4_middleOf 0 = .ok (.iload_n 1, 1) := by decide +kernel
theorem dX4_middleOf_1 : decode cX4_middleOf 1 = .ok (.invokestatic 40, 3) := by decide +kernel
theorem dX4_middleOf_4 : decode cX4_middleOf 4 = .ok (.ifCond .ne 5, 3) := by decide +kernel
theorem dX4_middleOf_7 : decode cX4_middleOf 7 = .ok (.iconst (-1), 1) := by decide +kernel
theorem dX4_middleOf_8 : decode cX4_middleOf 8 = .ok (.ireturn, 1) := by decide +kernel
theorem dX4_middleOf_9 : decode cX4_middleOf 9 = .ok (.aload_n 0, 1) := by decide +kernel
theorem dX4_middleOf_10 : decode cX4_middleOf 10 = .ok (.iload_n 1, 1) := by decide +kernel
theorem dX4_middleOf_11 : decode cX4_middleOf 11 = .ok (.invokevirtual 44, 3) := by decide +kernel
theorem dX4_middleOf_14 : decode cX4_middleOf 14 = .ok (.istore_n 2, 1) := by decide +kernel
theorem dX4_middleOf_15 : decode cX4_middleOf 15 = .ok (.iload_n 2, 1) := by decide +kernel
theorem dX4_middleOf_16 : decode cX4_middleOf 16 = .ok (.ifCond .ne 5, 3) := by decide +kernel
theorem dX4_middleOf_19 : decode cX4_middleOf 19 = .ok (.iconst (-1), 1) := by decide +kernel
theorem dX4_middleOf_20 : decode cX4_middleOf 20 = .ok (.ireturn, 1) := by decide +kernel
theorem dX4_middleOf_21 : decode cX4_middleOf 21 = .ok (.iconst 0, 1) := by decide +kernel
theorem dX4_middleOf_22 : decode cX4_middleOf 22 = .ok (.istore_n 3, 1) := by decide +kernel
theorem dX4_middleOf_23 : decode cX4_middleOf 23 = .ok (.iconst 0, 1) := by decide +kernel
theorem dX4_middleOf_24 : decode cX4_middleOf 24 = .ok (.istore 4, 2) := by decide +kernel
theorem dX4_middleOf_26 : decode cX4_middleOf 26 = .ok (.iload 4, 2) := by decide +kernel
theorem dX4_middleOf_28 : decode cX4_middleOf 28 = .ok (.bipush 10, 2) := by decide +kernel
theorem dX4_middleOf_30 : decode cX4_middleOf 30 = .ok (.if_icmp .gt 31, 3) := by decide +kernel
theorem dX4_middleOf_33 : decode cX4_middleOf 33 = .ok (.iload_n 3, 1) := by decide +kernel
theorem dX4_middleOf_34 : decode cX4_middleOf 34 = .ok (.aload_n 0, 1) := by decide +kernel
theorem dX4_middleOf_35 : decode cX4_middleOf 35 = .ok (.getfield 25, 3) := by decide +kernel
theorem dX4_middleOf_38 : decode cX4_middleOf 38 = .ok (.iload 4, 2) := by decide +kernel
theorem dX4_middleOf_40 : decode cX4_middleOf 40 = .ok (.iaload, 1) := by decide +kernel
theorem dX4_middleOf_41 : decode cX4_middleOf 41 = .ok (.iadd, 1) := by decide +kernel
theorem dX4_middleOf_42 : decode cX4_middleOf 42 = .ok (.istore_n 3, 1) := by decide +kernel
theorem dX4_middleOf_43 : decode cX4_middleOf 43 = .ok (.iload_n 3, 1) := by decide +kernel
theorem dX4_middleOf_44 : decode cX4_middleOf 44 = .ok (.iload_n 2, 1) := by decide +kernel
theorem dX4_middleOf_45 : decode cX4_middleOf 45 = .ok (.iconst 1, 1) := by decide +kernel
theorem dX4_middleOf_46 : decode cX4_middleOf 46 = .ok (.isub, 1) := by decide +kernel
theorem dX4_middleOf_47 : decode cX4_middleOf 47 = .ok (.iconst 2, 1) := by decide +kernel
theorem dX4_middleOf_48 : decode cX4_middleOf 48 = .ok (.idiv, 1) := by decide +kernel
theorem dX4_middleOf_49 : decode cX4_middleOf 49 = .ok (.if_icmp .le 6, 3) := by decide +kernel
theorem dX4_middleOf_52 : decode cX4_middleOf 52 = .ok (.iload 4, 2) := by decide +kernel
theorem dX4_middleOf_54 : decode cX4_middleOf 54 = .ok (.ireturn, 1) := by decide +kernel
theorem dX4_middleOf_55 : decode cX4_middleOf 55 = .ok (.iinc 4 1, 3) := by decide +kernel
theorem dX4_middleOf_58 : decode cX4_middleOf 58 = .ok (.goto (-32), 3) := by decide +kernel
theorem dX4_middleOf_61 : decode cX4_middleOf 61 = .ok (.iconst (-1), 1) := by decide +kernel
theorem dX4_middleOf_62 : decode cX4_middleOf 62 = .ok (.ireturn, 1) := by decide +kernel
theorem dX4_bestBook_0 : decode cX4_bestBook 0 = .ok (.iconst (-1), 1) := by decide +kernel
theorem dX4_bestBook_1 : decode cX4_bestBook 1 = .ok (.istore_n 1, 1) := by decide +kernel
theorem dX4_bestBook_2 : decode cX4_bestBook 2 = .ok (.iconst (-1), 1) := by decide +kernel
theorem dX4_bestBook_3 : decode cX4_bestBook 3 = .ok (.istore_n 2, 1) := by decide +kernel
theorem dX4_bestBook_4 : decode cX4_bestBook 4 = .ok (.iconst 0, 1) := by decide +kernel
theorem dX4_bestBook_5 : decode cX4_bestBook 5 = .ok (.istore_n 3, 1) := by decide +kernel
theorem dX4_bestBook_6 : decode cX4_bestBook 6 = .ok (.iconst 0, 1) := by decide +kernel
theorem dX4_bestBook_7 : decode cX4_bestBook 7 = .ok (.istore 4, 2) := by decide +kernel
theorem dX4_bestBook_9 : decode cX4_bestBook 9 = .ok (.iload 4, 2) := by decide +kernel
theorem dX4_bestBook_11 : decode cX4_bestBook 11 = .ok (.bipush 20, 2) := by decide +kernel
theorem dX4_bestBook_13 : decode cX4_bestBook 13 = .ok (.if_icmp .ge 58, 3) := by decide +kernel
theorem dX4_bestBook_16 : decode cX4_bestBook 16 = .ok (.aload_n 0, 1) := by decide +kernel
theorem dX4_bestBook_17 : decode cX4_bestBook 17 = .ok (.iload 4, 2) := by decide +kernel
theorem dX4_bestBook_19 : decode cX4_bestBook 19 = .ok (.invokevirtual 48, 3) := by decide +kernel
theorem dX4_bestBook_22 : decode cX4_bestBook 22 = .ok (.istore 5, 2) := by decide +kernel
theorem dX4_bestBook_24 : decode cX4_bestBook 24 = .ok (.aload_n 0, 1) := by decide +kernel
theorem dX4_bestBook_25 : decode cX4_bestBook 25 = .ok (.iload 5, 2) := by decide +kernel
theorem dX4_bestBook_27 : decode cX4_bestBook 27 = .ok (.invokevirtual 51, 3) := by decide +kernel
theorem dX4_bestBook_30 : decode cX4_bestBook 30 = .ok (.istore 6, 2) := by decide +kernel
theorem dX4_bestBook_32 : decode cX4_bestBook 32 = .ok (.iload 5, 2) := by decide +kernel
theorem dX4_bestBook_34 : decode cX4_bestBook 34 = .ok (.iload_n 2, 1) := by decide +kernel
theorem dX4_bestBook_35 : decode cX4_bestBook 35 = .ok (.if_icmp .gt 21, 3) := by decide +kernel
theorem dX4_bestBook_38 : decode cX4_bestBook 38 = .ok (.iload 5, 2) := by decide +kernel
theorem dX4_bestBook_40 : decode cX4_bestBook 40 = .ok (.iconst (-1), 1) := by decide +kernel
theorem dX4_bestBook_41 : decode cX4_bestBook 41 = .ok (.if_icmp .eq 24, 3) := by decide +kernel
theorem dX4_bestBook_44 : decode cX4_bestBook 44 = .ok (.iload 5, 2) := by decide +kernel
theorem dX4_bestBook_46 : decode cX4_bestBook 46 = .ok (.iload_n 2, 1) := by decide +kernel
theorem dX4_bestBook_47 : decode cX4_bestBook 47 = .ok (.if_icmp .ne 18, 3) := by decide +kernel
theorem dX4_bestBook_50 : decode cX4_bestBook 50 = .ok (.iload 6, 2) := by decide +kernel
theorem dX4_bestBook_52 : decode cX4_bestBook 52 = .ok (.iload_n 3, 1) := by decide +kernel
theorem dX4_bestBook_53 : decode cX4_bestBook 53 = .ok (.if_icmp .le 12, 3) := by decide +kernel
theorem dX4_bestBook_56 : decode cX4_bestBook 56 = .ok (.iload 4, 2) := by decide +kernel
theorem dX4_bestBook_58 : decode cX4_bestBook 58 = .ok (.istore_n 1, 1) := by decide +kernel
theorem dX4_bestBook_59 : decode cX4_bestBook 59 = .ok (.iload 5, 2) := by decide +kernel
theorem dX4_bestBook_61 : decode cX4_bestBook 61 = .ok (.istore_n 2, 1) := by decide +kernel
theorem dX4_bestBook_62 : decode cX4_bestBook 62 = .ok (.iload 6, 2) := by decide +kernel
theorem dX4_bestBook_64 : decode cX4_bestBook 64 = .ok (.istore_n 3, 1) := by decide +kernel
theorem dX4_bestBook_65 : decode cX4_bestBook 65 = .ok (.iinc 4 1, 3) := by decide +kernel
theorem dX4_bestBook_68 : decode cX4_bestBook 68 = .ok (.goto (-59), 3) := by decide +kernel
theorem dX4_bestBook_71 : decode cX4_bestBook 71 = .ok (.iload_n 1, 1) := by decide +kernel
theorem dX4_bestBook_72 : decode cX4_bestBook 72 = .ok (.ireturn, 1) := by decide +kernel
theorem dX4_tallyMarks_0 : decode cX4_tallyMarks 0 = .ok (.aload_n 0, 1) := by decide +kernel
theorem dX4_tallyMarks_1 : decode cX4_tallyMarks 1 = .ok (.getfield 25, 3) := by decide +kernel
theorem dX4_tallyMarks_4 : decode cX4_tallyMarks 4 = .ok (.iconst 0, 1) := by decide +kernel
theorem dX4_tallyMarks_5 : decode cX4_tallyMarks 5 = .ok (.invokestatic 15, 3) := by decide +kernel
theorem dX4_tallyMarks_8 : decode cX4_tallyMarks 8 = .ok (.iconst 0, 1) := by decide +kernel
theorem dX4_tallyMarks_9 : decode cX4_tallyMarks 9 = .ok (.istore_n 2, 1) := by decide +kernel
theorem dX4_tallyMarks_10 : decode cX4_tallyMarks 10 = .ok (.iconst 0, 1) := by decide +kernel
theorem dX4_tallyMarks_11 : decode cX4_tallyMarks 11 = .ok (.istore_n 3, 1) := by decide +kernel
theorem dX4_tallyMarks_12 : decode cX4_tallyMarks 12 = .ok (.iload_n 3, 1) := by decide +kernel
theorem dX4_tallyMarks_13 : decode cX4_tallyMarks 13 = .ok (.bipush 9, 2) := by decide +kernel
theorem dX4_tallyMarks_15 : decode cX4_tallyMarks 15 = .ok (.if_icmp .ge 59, 3) := by decide +kernel
theorem dX4_tallyMarks_18 : decode cX4_tallyMarks 18 = .ok (.aload_n 0, 1) := by decide +kernel
theorem dX4_tallyMarks_19 : decode cX4_tallyMarks 19 = .ok (.getfield 11, 3) := by decide +kernel
theorem dX4_tallyMarks_22 : decode cX4_tallyMarks 22 = .ok (.iload_n 3, 1) := by decide +kernel
theorem dX4_tallyMarks_23 : decode cX4_tallyMarks 23 = .ok (.iload_n 1, 1) := by decide +kernel
theorem dX4_tallyMarks_24 : decode cX4_tallyMarks 24 = .ok (.invokestatic 36, 3) := by decide +kernel
theorem dX4_tallyMarks_27 : decode cX4_tallyMarks 27 = .ok (.iaload, 1) := by decide +kernel
theorem dX4_tallyMarks_28 : decode cX4_tallyMarks 28 = .ok (.istore 4, 2) := by decide +kernel
theorem dX4_tallyMarks_30 : decode cX4_tallyMarks 30 = .ok (.iload 4, 2) := by decide +kernel
theorem dX4_tallyMarks_32 : decode cX4_tallyMarks 32 = .ok (.iconst 0, 1) := by decide +kernel
theorem dX4_tallyMarks_33 : decode cX4_tallyMarks 33 = .ok (.bipush 10, 2) := by decide +kernel
theorem dX4_tallyMarks_35 : decode cX4_tallyMarks 35 = .ok (.invokestatic 32, 3) := by decide +kernel
theorem dX4_tallyMarks_38 : decode cX4_tallyMarks 38 = .ok (.ifCond .eq 30, 3) := by decide +kernel
theorem dX4_tallyMarks_41 : decode cX4_tallyMarks 41 = .ok (.aload_n 0, 1) := by decide +kernel
theorem dX4_tallyMarks_42 : decode cX4_tallyMarks 42 = .ok (.getfield 21, 3) := by decide +kernel
theorem dX4_tallyMarks_45 : decode cX4_tallyMarks 45 = .ok (.iload_n 3, 1) := by decide +kernel
theorem dX4_tallyMarks_46 : decode cX4_tallyMarks 46 = .ok (.iload_n 1, 1) := by decide +kernel
theorem dX4_tallyMarks_47 : decode cX4_tallyMarks 47 = .ok (.invokestatic 36, 3) := by decide +kernel
theorem dX4_tallyMarks_50 : decode cX4_tallyMarks 50 = .ok (.baload, 1) := by decide +kernel
theorem dX4_tallyMarks_51 : decode cX4_tallyMarks 51 = .ok (.ifCond .ne 17, 3) := by decide +kernel
theorem dX4_tallyMarks_54 : decode cX4_tallyMarks 54 = .ok (.aload_n 0, 1) := by decide +kernel
theorem dX4_tallyMarks_55 : decode cX4_tallyMarks 55 = .ok (.getfield 25, 3) := by decide +kernel
theorem dX4_tallyMarks_58 : decode cX4_tallyMarks 58 = .ok (.iload 4, 2) := by decide +kernel
theorem dX4_tallyMarks_60 : decode cX4_tallyMarks 60 = .ok (.dup2, 1) := by decide +kernel
theorem dX4_tallyMarks_61 : decode cX4_tallyMarks 61 = .ok (.iaload, 1) := by decide +kernel
theorem dX4_tallyMarks_62 : decode cX4_tallyMarks 62 = .ok (.iconst 1, 1) := by decide +kernel
theorem dX4_tallyMarks_63 : decode cX4_tallyMarks 63 = .ok (.iadd, 1) := by decide +kernel
theorem dX4_tallyMarks_64 : decode cX4_tallyMarks 64 = .ok (.iastore, 1) := by decide +kernel
theorem dX4_tallyMarks_65 : decode cX4_tallyMarks 65 = .ok (.iinc 2 1, 3) := by decide +kernel
theorem dX4_tallyMarks_68 : decode cX4_tallyMarks 68 = .ok (.iinc 3 1, 3) := by decide +kernel
theorem dX4_tallyMarks_71 : decode cX4_tallyMarks 71 = .ok (.goto (-59), 3) := by decide +kernel
theorem dX4_tallyMarks_74 : decode cX4_tallyMarks 74 = .ok (.iload_n 2, 1) := by decide +kernel
theorem dX4_tallyMarks_75 : decode cX4_tallyMarks 75 = .ok (.ireturn, 1) := by decide +kernel
theorem dX4_leadOver_0 : decode cX4_leadOver 0 = .ok (.iconst 0, 1) := by decide +kernel
theorem dX4_leadOver_1 : decode cX4_leadOver 1 = .ok (.istore_n 2, 1) := by decide +kernel
theorem dX4_leadOver_2 : decode cX4_leadOver 2 = .ok (.iconst 0, 1) := by decide +kernel
theorem dX4_leadOver_3 : decode cX4_leadOver 3 = .ok (.istore_n 3, 1) := by decide +kernel
theorem dX4_leadOver_4 : decode cX4_leadOver 4 = .ok (.iload_n 3, 1) := by decide +kernel
theorem dX4_leadOver_5 : decode cX4_leadOver 5 = .ok (.bipush 10, 2) := by decide +kernel
theorem dX4_leadOver_7 : decode cX4_leadOver 7 = .ok (.if_icmp .gt 40, 3) := by decide +kernel
theorem dX4_leadOver_10 : decode cX4_leadOver 10 = .ok (.iload_n 3, 1) := by decide +kernel
theorem dX4_leadOver_11 : decode cX4_leadOver 11 = .ok (.iload_n 1, 1) := by decide +kernel
theorem dX4_leadOver_12 : decode cX4_leadOver 12 = .ok (.if_icmp .le 15, 3) := by decide +kernel
theorem dX4_leadOver_15 : decode cX4_leadOver 15 = .ok (.iload_n 2, 1) := by decide +kernel
theorem dX4_leadOver_16 : decode cX4_leadOver 16 = .ok (.aload_n 0, 1) := by decide +kernel
theorem dX4_leadOver_17 : decode cX4_leadOver 17 = .ok (.getfield 25, 3) := by decide +kernel
theorem dX4_leadOver_20 : decode cX4_leadOver 20 = .ok (.iload_n 3, 1) := by decide +kernel
theorem dX4_leadOver_21 : decode cX4_leadOver 21 = .ok (.iaload, 1) := by decide +kernel
theorem dX4_leadOver_22 : decode cX4_leadOver 22 = .ok (.iadd, 1) := by decide +kernel
theorem dX4_leadOver_23 : decode cX4_leadOver 23 = .ok (.istore_n 2, 1) := by decide +kernel
theorem dX4_leadOver_24 : decode cX4_leadOver 24 = .ok (.goto 17, 3) := by decide +kernel
theorem dX4_leadOver_27 : decode cX4_leadOver 27 = .ok (.iload_n 3, 1) := by decide +kernel
theorem dX4_leadOver_28 : decode cX4_leadOver 28 = .ok (.iload_n 1, 1) := by decide +kernel
theorem dX4_leadOver_29 : decode cX4_leadOver 29 = .ok (.if_icmp .ge 12, 3) := by decide +kernel
theorem dX4_leadOver_32 : decode cX4_leadOver 32 = .ok (.iload_n 2, 1) := by decide +kernel
theorem dX4_leadOver_33 : decode cX4_leadOver 33 = .ok (.aload_n 0, 1) := by decide +kernel
theorem dX4_leadOver_34 : decode cX4_leadOver 34 = .ok (.getfield 25, 3) := by decide +kernel
theorem dX4_leadOver_37 : decode cX4_leadOver 37 = .ok (.iload_n 3, 1) := by decide +kernel
theorem dX4_leadOver_38 : decode cX4_leadOver 38 = .ok (.iaload, 1) := by decide +kernel
theorem dX4_leadOver_39 : decode cX4_leadOver 39 = .ok (.isub, 1) := by decide +kernel
theorem dX4_leadOver_40 : decode cX4_leadOver 40 = .ok (.istore_n 2, 1) := by decide +kernel
theorem dX4_leadOver_41 : decode cX4_leadOver 41 = .ok (.iinc 3 1, 3) := by decide +kernel
theorem dX4_leadOver_44 : decode cX4_leadOver 44 = .ok (.goto (-40), 3) := by decide +kernel
theorem dX4_leadOver_47 : decode cX4_leadOver 47 = .ok (.iload_n 2, 1) := by decide +kernel
theorem dX4_leadOver_48 : decode cX4_leadOver 48 = .ok (.ireturn, 1) := by decide +kernel
theorem dX4_placeOf_0 : decode cX4_placeOf 0 = .ok (.iload_n 0, 1) := by decide +kernel
theorem dX4_placeOf_1 : decode cX4_placeOf 1 = .ok (.bipush 20, 2) := by decide +kernel
theorem dX4_placeOf_3 : decode cX4_placeOf 3 = .ok (.imul, 1) := by decide +kernel
theorem dX4_placeOf_4 : decode cX4_placeOf 4 = .ok (.iload_n 1, 1) := by decide +kernel
theorem dX4_placeOf_5 : decode cX4_placeOf 5 = .ok (.iadd, 1) := by decide +kernel
theorem dX4_placeOf_6 : decode cX4_placeOf 6 = .ok (.ireturn, 1) := by decide +kernel
theorem dX4_isPair_0 : decode cX4_isPair 0 = .ok (.iload_n 0, 1) := by decide +kernel
theorem dX4_isPair_1 : decode cX4_isPair 1 = .ok (.iconst 0, 1) := by decide +kernel
theorem dX4_isPair_2 : decode cX4_isPair 2 = .ok (.bipush 8, 2) := by decide +kernel
theorem dX4_isPair_4 : decode cX4_isPair 4 = .ok (.invokestatic 32, 3) := by decide +kernel
theorem dX4_isPair_7 : decode cX4_isPair 7 = .ok (.ifCond .eq 14, 3) := by decide +kernel
theorem dX4_isPair_10 : decode cX4_isPair 10 = .ok (.iload_n 1, 1) := by decide +kernel
theorem dX4_isPair_11 : decode cX4_isPair 11 = .ok (.invokestatic 40, 3) := by decide +kernel
theorem dX4_isPair_14 : decode cX4_isPair 14 = .ok (.ifCond .eq 7, 3) := by decide +kernel
theorem dX4_isPair_17 : decode cX4_isPair 17 = .ok (.iconst 1, 1) := by decide +kernel
theorem dX4_isPair_18 : decode cX4_isPair 18 = .ok (.goto 4, 3) := by decide +kernel
theorem dX4_isPair_21 : decode cX4_isPair 21 = .ok (.iconst 0, 1) := by decide +kernel
theorem dX4_isPair_22 : decode cX4_isPair 22 = .ok (.ireturn, 1) := by decide +kernel
theorem dX4_isBook_0 : decode cX4_isBook 0 = .ok (.iload_n 0, 1) := by decide +kernel
theorem dX4_isBook_1 : decode cX4_isBook 1 = .ok (.iconst 0, 1) := by decide +kernel
theorem dX4_isBook_2 : decode cX4_isBook 2 = .ok (.bipush 19, 2) := by decide +kernel
theorem dX4_isBook_4 : decode cX4_isBook 4 = .ok (.invokestatic 32, 3) := by decide +kernel
theorem dX4_isBook_7 : decode cX4_isBook 7 = .ok (.ireturn, 1) := by decide +kernel
theorem dX5_init_0 : decode cX5_init 0 = .ok (.aload_n 0, 1) := by decide +kernel
theorem dX5_init_1 : decode cX5_init 1 = .ok (.invokespecial 1, 3) := by decide +kernel
theorem dX5_init_4 : decode cX5_init 4 = .ok (.aload_n 0, 1) := by decide +kernel
theorem dX5_init_5 : decode cX5_init 5 = .ok (.new 7, 3) := by decide +kernel
theorem dX5_init_8 : decode cX5_init 8 = .ok (.dup, 1) := by decide +kernel
theorem dX5_init_9 : decode cX5_init 9 = .ok (.invokespecial 9, 3) := by decide +kernel
theorem dX5_init_12 : decode cX5_init 12 = .ok (.putfield 10, 3) := by decide +kernel
theorem dX5_init_15 : decode cX5_init 15 = .ok (.return_, 1) := by decide +kernel
theorem dX5_size_0 : decode cX5_size 0 = .ok (.aload_n 0, 1) := by decide +kernel
theorem dX5_size_1 : decode cX5_size 1 = .ok (.getfield 10, 3) := by decide +kernel
theorem dX5_size_4 : decode cX5_size 4 = .ok (.invokevirtual 16, 3) := by decide +kernel
theorem dX5_size_7 : decode cX5_size 7 = .ok (.ireturn, 1) := by decide +kernel
theorem dX5_roomLeft_0 : decode cX5_roomLeft 0 = .ok (.sipush 900, 3) := by decide +kernel
theorem dX5_roomLeft_3 : decode cX5_roomLeft 3 = .ok (.aload_n 0, 1) := by decide +kernel
theorem dX5_roomLeft_4 : decode cX5_roomLeft 4 = .ok (.getfield 10, 3) := by decide +kernel
theorem dX5_roomLeft_7 : decode cX5_roomLeft 7 = .ok (.invokevirtual 16, 3) := by decide +kernel
theorem dX5_roomLeft_10 : decode cX5_roomLeft 10 = .ok (.isub, 1) := by decide +kernel
theorem dX5_roomLeft_11 : decode cX5_roomLeft 11 = .ok (.ireturn, 1) := by decide +kernel
theorem dX5_find_0 : decode cX5_find 0 = .ok (.iload_n 1, 1) := by decide +kernel
theorem dX5_find_1 : decode cX5_find 1 = .ok (.iconst 0, 1) := by decide +kernel
theorem dX5_find_2 : decode cX5_find 2 = .ok (.aload_n 0, 1) := by decide +kernel
theorem dX5_find_3 : decode cX5_find 3 = .ok (.getfield 10, 3) := by decide +kernel
theorem dX5_find_6 : decode cX5_find 6 = .ok (.invokevirtual 16, 3) := by decide +kernel
theorem dX5_find_9 : decode cX5_find 9 = .ok (.iconst 1, 1) := by decide +kernel
theorem dX5_find_10 : decode cX5_find 10 = .ok (.isub, 1) := by decide +kernel
theorem dX5_find_11 : decode cX5_find 11 = .ok (.invokestatic 20, 3) := by decide +kernel
theorem dX5_find_14 : decode cX5_find 14 = .ok (.ifCond .eq 17, 3) := by decide +kernel
theorem dX5_find_17 : decode cX5_find 17 = .ok (.aload_n 0, 1) := by decide +kernel
theorem dX5_find_18 : decode cX5_find 18 = .ok (.getfield 10, 3) := by decide +kernel
theorem dX5_find_21 : decode cX5_find 21 = .ok (.iload_n 1, 1) := by decide +kernel
theorem dX5_find_22 : decode cX5_find 22 = .ok (.invokevirtual 26, 3) := by decide +kernel
theorem dX5_find_25 : decode cX5_find 25 = .ok (.checkcast 30, 3) := by decide +kernel
theorem dX5_find_28 : decode cX5_find 28 = .ok (.goto 4, 3) := by decide +kernel
theorem dX5_find_31 : decode cX5_find 31 = .ok (.aconst_null, 1) := by decide +kernel
theorem dX5_find_32 : decode cX5_find 32 = .ok (.areturn, 1) := by decide +kernel
theorem dX5_write_0 : decode cX5_write 0 = .ok (.lload 4, 2) := by decide +kernel
theorem dX5_write_2 : decode cX5_write 2 = .ok (.lconst 0, 1) := by decide +kernel
theorem dX5_write_3 : decode cX5_write 3 = .ok (.lcmp, 1) := by decide +kernel
theorem dX5_write_4 : decode cX5_write 4 = .ok (.ifCond .eq 16, 3) := by decide +kernel
theorem dX5_write_7 : decode cX5_write 7 = .ok (.aload_n 0, 1) := by decide +kernel
theorem dX5_write_8 : decode cX5_write 8 = .ok (.getfield 10, 3) := by decide +kernel
theorem dX5_write_11 : decode cX5_write 11 = .ok (.invokevirtual 16, 3) := by decide +kernel
theorem dX5_write_14 : decode cX5_write 14 = .ok (.sipush 900, 3) := by decide +kernel
theorem dX5_write_17 : decode cX5_write 17 = .ok (.if_icmp .lt 4, 3) := by decide +kernel
theorem dX5_write_20 : decode cX5_write 20 = .ok (.return_, 1) := by decide +kernel
theorem dX5_write_21 : decode cX5_write 21 = .ok (.aload_n 0, 1) := by decide +kernel
theorem dX5_write_22 : decode cX5_write 22 = .ok (.getfield 10, 3) := by decide +kernel
theorem dX5_write_25 : decode cX5_write 25 = .ok (.new 30, 3) := by decide +kernel
theorem dX5_write_28 : decode cX5_write 28 = .ok (.dup, 1) := by decide +kernel
theorem dX5_write_29 : decode cX5_write 29 = .ok (.aload_n 1, 1) := by decide +kernel
theorem dX5_write_30 : decode cX5_write 30 = .ok (.iload_n 2, 1) := by decide +kernel
theorem dX5_write_31 : decode cX5_write 31 = .ok (.iload_n 3, 1) := by decide +kernel
theorem dX5_write_32 : decode cX5_write 32 = .ok (.lload 4, 2) := by decide +kernel
theorem dX5_write_34 : decode cX5_write 34 = .ok (.invokespecial 32, 3) := by decide +kernel
theorem dX5_write_37 : decode cX5_write 37 = .ok (.invokevirtual 35, 3) := by decide +kernel
theorem dX5_write_40 : decode cX5_write 40 = .ok (.pop, 1) := by decide +kernel
theorem dX5_write_41 : decode cX5_write 41 = .ok (.aload_n 1, 1) := by decide +kernel
theorem dX5_write_42 : decode cX5_write 42 = .ok (.dup, 1) := by decide +kernel
theorem dX5_write_43 : decode cX5_write 43 = .ok (.getfield 39, 3) := by decide +kernel
theorem dX5_write_46 : decode cX5_write 46 = .ok (.lload 4, 2) := by decide +kernel
theorem dX5_write_48 : decode cX5_write 48 = .ok (.ladd, 1) := by decide +kernel
theorem dX5_write_49 : decode cX5_write 49 = .ok (.putfield 39, 3) := by decide +kernel
theorem dX5_write_52 : decode cX5_write 52 = .ok (.return_, 1) := by decide +kernel
theorem dX5_sumKnown_0 : decode cX5_sumKnown 0 = .ok (.lconst 0, 1) := by decide +kernel
theorem dX5_sumKnown_1 : decode cX5_sumKnown 1 = .ok (.lstore 4, 2) := by decide +kernel
theorem dX5_sumKnown_3 : decode cX5_sumKnown 3 = .ok (.iconst 0, 1) := by decide +kernel
theorem dX5_sumKnown_4 : decode cX5_sumKnown 4 = .ok (.istore 6, 2) := by decide +kernel
theorem dX5_sumKnown_6 : decode cX5_sumKnown 6 = .ok (.iload 6, 2) := by decide +kernel
theorem dX5_sumKnown_8 : decode cX5_sumKnown 8 = .ok (.aload_n 0, 1) := by decide +kernel
theorem dX5_sumKnown_9 : decode cX5_sumKnown 9 = .ok (.getfield 10, 3) := by decide +kernel
theorem dX5_sumKnown_12 : decode cX5_sumKnown 12 = .ok (.invokevirtual 16, 3) := by decide +kernel
theorem dX5_sumKnown_15 : decode cX5_sumKnown 15 = .ok (.if_icmp .ge 66, 3) := by decide +kernel
theorem dX5_sumKnown_18 : decode cX5_sumKnown 18 = .ok (.aload_n 0, 1) := by decide +kernel
theorem dX5_sumKnown_19 : decode cX5_sumKnown 19 = .ok (.getfield 10, 3) := by decide +kernel
theorem dX5_sumKnown_22 : decode cX5_sumKnown 22 = .ok (.iload 6, 2) := by decide +kernel
theorem dX5_sumKnown_24 : decode cX5_sumKnown 24 = .ok (.invokevirtual 26, 3) := by decide +kernel
theorem dX5_sumKnown_27 : decode cX5_sumKnown 27 = .ok (.checkcast 30, 3) := by decide +kernel
theorem dX5_sumKnown_30 : decode cX5_sumKnown 30 = .ok (.astore 7, 2) := by decide +kernel
theorem dX5_sumKnown_32 : decode cX5_sumKnown 32 = .ok (.aload 7, 2) := by decide +kernel
theorem dX5_sumKnown_34 : decode cX5_sumKnown 34 = .ok (.getfield 45, 3) := by decide +kernel
theorem dX5_sumKnown_37 : decode cX5_sumKnown 37 = .ok (.getfield 49, 3) := by decide +kernel
theorem dX5_sumKnown_40 : decode cX5_sumKnown 40 = .ok (.aload_n 1, 1) := by decide +kernel
theorem dX5_sumKnown_41 : decode cX5_sumKnown 41 = .ok (.getfield 49, 3) := by decide +kernel
theorem dX5_sumKnown_44 : decode cX5_sumKnown 44 = .ok (.if_icmp .ne 31, 3) := by decide +kernel
theorem dX5_sumKnown_47 : decode cX5_sumKnown 47 = .ok (.aload 7, 2) := by decide +kernel
theorem dX5_sumKnown_49 : decode cX5_sumKnown 49 = .ok (.getfield 53, 3) := by decide +kernel
theorem dX5_sumKnown_52 : decode cX5_sumKnown 52 = .ok (.iload_n 2, 1) := by decide +kernel
theorem dX5_sumKnown_53 : decode cX5_sumKnown 53 = .ok (.if_icmp .gt 22, 3) := by decide +kernel
theorem dX5_sumKnown_56 : decode cX5_sumKnown 56 = .ok (.aload 7, 2) := by decide +kernel
theorem dX5_sumKnown_58 : decode cX5_sumKnown 58 = .ok (.iload_n 3, 1) := by decide +kernel
theorem dX5_sumKnown_59 : decode cX5_sumKnown 59 = .ok (.invokevirtual 56, 3) := by decide +kernel
theorem dX5_sumKnown_62 : decode cX5_sumKnown 62 = .ok (.ifCond .ne 13, 3) := by decide +kernel
theorem dX5_sumKnown_65 : decode cX5_sumKnown 65 = .ok (.lload 4, 2) := by decide +kernel
theorem dX5_sumKnown_67 : decode cX5_sumKnown 67 = .ok (.aload 7, 2) := by decide +kernel
theorem dX5_sumKnown_69 : decode cX5_sumKnown 69 = .ok (.getfield 60, 3) := by decide +kernel
theorem dX5_sumKnown_72 : decode cX5_sumKnown 72 = .ok (.ladd, 1) := by decide +kernel
theorem dX5_sumKnown_73 : decode cX5_sumKnown 73 = .ok (.lstore 4, 2) := by decide +kernel
theorem dX5_sumKnown_75 : decode cX5_sumKnown 75 = .ok (.iinc 6 1, 3) := by decide +kernel
theorem dX5_sumKnown_78 : decode cX5_sumKnown 78 = .ok (.goto (-72), 3) := by decide +kernel
theorem dX5_sumKnown_81 : decode cX5_sumKnown 81 = .ok (.lload 4, 2) := by decide +kernel
theorem dX5_sumKnown_83 : decode cX5_sumKnown 83 = .ok (.lreturn, 1) := by decide +kernel
theorem dX6_init_0 : decode cX6_init 0 = .ok (.aload_n 0, 1) := by decide +kernel
theorem dX6_init_1 : decode cX6_init 1 = .ok (.invokespecial 3, 3) := by decide +kernel
theorem dX6_init_4 : decode cX6_init 4 = .ok (.aload_n 0, 1) := by decide +kernel
theorem dX6_init_5 : decode cX6_init 5 = .ok (.iload_n 1, 1) := by decide +kernel
theorem dX6_init_6 : decode cX6_init 6 = .ok (.putfield 9, 3) := by decide +kernel
theorem dX6_init_9 : decode cX6_init 9 = .ok (.aload_n 0, 1) := by decide +kernel
theorem dX6_init_10 : decode cX6_init 10 = .ok (.iload_n 2, 1) := by decide +kernel
theorem dX6_init_11 : decode cX6_init 11 = .ok (.putfield 15, 3) := by decide +kernel
theorem dX6_init_14 : decode cX6_init 14 = .ok (.aload_n 0, 1) := by decide +kernel
theorem dX6_init_15 : decode cX6_init 15 = .ok (.iload_n 3, 1) := by decide +kernel
theorem dX6_init_16 : decode cX6_init 16 = .ok (.putfield 18, 3) := by decide +kernel
theorem dX6_init_19 : decode cX6_init 19 = .ok (.aload_n 0, 1) := by decide +kernel
theorem dX6_init_20 : decode cX6_init 20 = .ok (.iconst 0, 1) := by decide +kernel
theorem dX6_init_21 : decode cX6_init 21 = .ok (.putfield 21, 3) := by decide +kernel
theorem dX6_init_24 : decode cX6_init 24 = .ok (.return_, 1) := by decide +kernel
theorem dX6_refusedInTime_0 : decode cX6_refusedInTime 0 = .ok (.aload_n 0, 1) := by decide +kernel
theorem dX6_refusedInTime_1 : decode cX6_refusedInTime 1 = .ok (.getfield 24, 3) := by decide +kernel
theorem dX6_refusedInTime_4 : decode cX6_refusedInTime 4 = .ok (.ifCond .le 15, 3) := by decide +kernel
theorem dX6_refusedInTime_7 : decode cX6_refusedInTime 7 = .ok (.aload_n 0, 1) := by decide +kernel
theorem dX6_refusedInTime_8 : decode cX6_refusedInTime 8 = .ok (.getfield 24, 3) := by decide +kernel
theorem dX6_refusedInTime_11 : decode cX6_refusedInTime 11 = .ok (.iload_n 1, 1) := by decide +kernel
theorem dX6_refusedInTime_12 : decode cX6_refusedInTime 12 = .ok (.if_icmp .gt 7, 3) := by decide +kernel
theorem dX6_refusedInTime_15 : decode cX6_refusedInTime 15 = .ok (.iconst 1, 1) := by decide +kernel
theorem dX6_refusedInTime_16 : decode cX6_refusedInTime 16 = .ok (.goto 4, 3) := by decide +kernel
theorem dX6_refusedInTime_19 : decode cX6_refusedInTime 19 = .ok (.iconst 0, 1) := by decide +kernel
theorem dX6_refusedInTime_20 : decode cX6_refusedInTime 20 = .ok (.ireturn, 1) := by decide +kernel
theorem dX6_forgetLatestChoice_0 : decode cX6_forgetLatestChoice 0 = .ok (.aload_n 0, 1) := by decide +kernel
theorem dX6_forgetLatestChoice_1 : decode cX6_forgetLatestChoice 1 = .ok (.iconst 0, 1) := by decide +kernel
theorem dX6_forgetLatestChoice_2 : decode cX6_forgetLatestChoice 2 = .ok (.putfield 27, 3) := by decide +kernel
theorem dX6_forgetLatestChoice_5 : decode cX6_forgetLatestChoice 5 = .ok (.aload_n 0, 1) := by decide +kernel
theorem dX6_forgetLatestChoice_6 : decode cX6_forgetLatestChoice 6 = .ok (.iconst 0, 1) := by decide +kernel
theorem dX6_forgetLatestChoice_7 : decode cX6_forgetLatestChoice 7 = .ok (.putfield 31, 3) := by decide +kernel
theorem dX6_forgetLatestChoice_10 : decode cX6_forgetLatestChoice 10 = .ok (.aload_n 0, 1) := by decide +kernel
theorem dX6_forgetLatestChoice_11 : decode cX6_forgetLatestChoice 11 = .ok (.iconst 0, 1) := by decide +kernel
theorem dX6_forgetLatestChoice_12 : decode cX6_forgetLatestChoice 12 = .ok (.putfield 34, 3) := by decide +kernel
theorem dX6_forgetLatestChoice_15 : decode cX6_forgetLatestChoice 15 = .ok (.return_, 1) := by decide +kernel
theorem dX6_owesMoreThan_0 : decode cX6_owesMoreThan 0 = .ok (.aload_n 0, 1) := by decide +kernel
theorem dX6_owesMoreThan_1 : decode cX6_owesMoreThan 1 = .ok (.getfield 37, 3) := by decide +kernel
theorem dX6_owesMoreThan_4 : decode cX6_owesMoreThan 4 = .ok (.iload_n 1, 1) := by decide +kernel
theorem dX6_owesMoreThan_5 : decode cX6_owesMoreThan 5 = .ok (.ineg, 1) := by decide +kernel
theorem dX6_owesMoreThan_6 : decode cX6_owesMoreThan 6 = .ok (.i2l, 1) := by decide +kernel
theorem dX6_owesMoreThan_7 : decode cX6_owesMoreThan 7 = .ok (.lcmp, 1) := by decide +kernel
theorem dX6_owesMoreThan_8 : decode cX6_owesMoreThan 8 = .ok (.ifCond .ge 7, 3) := by decide +kernel
theorem dX6_owesMoreThan_11 : decode cX6_owesMoreThan 11 = .ok (.iconst 1, 1) := by decide +kernel
theorem dX6_owesMoreThan_12 : decode cX6_owesMoreThan 12 = .ok (.goto 4, 3) := by decide +kernel
theorem dX6_owesMoreThan_15 : decode cX6_owesMoreThan 15 = .ok (.iconst 0, 1) := by decide +kernel
theorem dX6_owesMoreThan_16 : decode cX6_owesMoreThan 16 = .ok (.ireturn, 1) := by decide +kernel
theorem dX6_owesNoLonger_0 : decode cX6_owesNoLonger 0 = .ok (.aload_n 0, 1) := by decide +kernel
theorem dX6_owesNoLonger_1 : decode cX6_owesNoLonger 1 = .ok (.iconst 0, 1) := by decide +kernel
theorem dX6_owesNoLonger_2 : decode cX6_owesNoLonger 2 = .ok (.putfield 41, 3) := by decide +kernel
theorem dX6_owesNoLonger_5 : decode cX6_owesNoLonger 5 = .ok (.aload_n 0, 1) := by decide +kernel
theorem dX6_owesNoLonger_6 : decode cX6_owesNoLonger 6 = .ok (.getfield 21, 3) := by decide +kernel
theorem dX6_owesNoLonger_9 : decode cX6_owesNoLonger 9 = .ok (.iconst 1, 1) := by decide +kernel
theorem dX6_owesNoLonger_10 : decode cX6_owesNoLonger 10 = .ok (.if_icmp .ne 8, 3) := by decide +kernel
theorem dX6_owesNoLonger_13 : decode cX6_owesNoLonger 13 = .ok (.aload_n 0, 1) := by decide +kernel
theorem dX6_owesNoLonger_14 : decode cX6_owesNoLonger 14 = .ok (.iconst 0, 1) := by decide +kernel
theorem dX6_owesNoLonger_15 : decode cX6_owesNoLonger 15 = .ok (.putfield 21, 3) := by decide +kernel
theorem dX6_owesNoLonger_18 : decode cX6_owesNoLonger 18 = .ok (.return_, 1) := by decide +kernel
theorem dX7_init_0 : decode cX7_init 0 = .ok (.aload_n 0, 1) := by decide +kernel
theorem dX7_init_1 : decode cX7_init 1 = .ok (.invokespecial 1, 3) := by decide +kernel
theorem dX7_init_4 : decode cX7_init 4 = .ok (.aload_n 0, 1) := by decide +kernel
theorem dX7_init_5 : decode cX7_init 5 = .ok (.bipush 60, 2) := by decide +kernel
theorem dX7_init_7 : decode cX7_init 7 = .ok (.newarray .int, 2) := by decide +kernel
theorem dX7_init_9 : decode cX7_init 9 = .ok (.putfield 9, 3) := by decide +kernel
theorem dX7_init_12 : decode cX7_init 12 = .ok (.aload_n 0, 1) := by decide +kernel
theorem dX7_init_13 : decode cX7_init 13 = .ok (.bipush 60, 2) := by decide +kernel
theorem dX7_init_15 : decode cX7_init 15 = .ok (.newarray .int, 2) := by decide +kernel
theorem dX7_init_17 : decode cX7_init 17 = .ok (.putfield 13, 3) := by decide +kernel
theorem dX7_init_20 : decode cX7_init 20 = .ok (.aload_n 0, 1) := by decide +kernel
theorem dX7_init_21 : decode cX7_init 21 = .ok (.bipush 60, 2) := by decide +kernel
theorem dX7_init_23 : decode cX7_init 23 = .ok (.newarray .int, 2) := by decide +kernel
theorem dX7_init_25 : decode cX7_init 25 = .ok (.putfield 16, 3) := by decide +kernel
theorem dX7_init_28 : decode cX7_init 28 = .ok (.aload_n 0, 1) := by decide +kernel
theorem dX7_init_29 : decode cX7_init 29 = .ok (.iconst 0, 1) := by decide +kernel
theorem dX7_init_30 : decode cX7_init 30 = .ok (.putfield 19, 3) := by decide +kernel
theorem dX7_init_33 : decode cX7_init 33 = .ok (.aload_n 0, 1) := by decide +kernel
theorem dX7_init_34 : decode cX7_init 34 = .ok (.iconst 0, 1) := by decide +kernel
theorem dX7_init_35 : decode cX7_init 35 = .ok (.putfield 23, 3) := by decide +kernel
theorem dX7_init_38 : decode cX7_init 38 = .ok (.return_, 1) := by decide +kernel
theorem dX7_isFull_0 : decode cX7_isFull 0 = .ok (.aload_n 0, 1) := by decide +kernel
theorem dX7_isFull_1 : decode cX7_isFull 1 = .ok (.getfield 19, 3) := by decide +kernel
theorem dX7_isFull_4 : decode cX7_isFull 4 = .ok (.aload_n 0, 1) := by decide +kernel
theorem dX7_isFull_5 : decode cX7_isFull 5 = .ok (.getfield 23, 3) := by decide +kernel
theorem dX7_isFull_8 : decode cX7_isFull 8 = .ok (.iadd, 1) := by decide +kernel
theorem dX7_isFull_9 : decode cX7_isFull 9 = .ok (.bipush 60, 2) := by decide +kernel
theorem dX7_isFull_11 : decode cX7_isFull 11 = .ok (.if_icmp .lt 7, 3) := by decide +kernel
theorem dX7_isFull_14 : decode cX7_isFull 14 = .ok (.iconst 1, 1) := by decide +kernel
theorem dX7_isFull_15 : decode cX7_isFull 15 = .ok (.goto 4, 3) := by decide +kernel
theorem dX7_isFull_18 : decode cX7_isFull 18 = .ok (.iconst 0, 1) := by decide +kernel
theorem dX7_isFull_19 : decode cX7_isFull 19 = .ok (.ireturn, 1) := by decide +kernel
theorem dX7_propose_0 : decode cX7_propose 0 = .ok (.aload_n 0, 1) := by decide +kernel
theorem dX7_propose_1 : decode cX7_propose 1 = .ok (.invokevirtual 26, 3) := by decide +kernel
theorem dX7_propose_4 : decode cX7_propose 4 = .ok (.ifCond .eq 4, 3) := by decide +kernel
theorem dX7_propose_7 : decode cX7_propose 7 = .ok (.return_, 1) := by decide +kernel
theorem dX7_propose_8 : decode cX7_propose 8 = .ok (.aload_n 0, 1) := by decide +kernel
theorem dX7_propose_9 : decode cX7_propose 9 = .ok (.getfield 19, 3) := by decide +kernel
theorem dX7_propose_12 : decode cX7_propose 12 = .ok (.aload_n 0, 1) := by decide +kernel
theorem dX7_propose_13 : decode cX7_propose 13 = .ok (.getfield 23, 3) := by decide +kernel
theorem dX7_propose_16 : decode cX7_propose 16 = .ok (.iadd, 1) := by decide +kernel
theorem dX7_propose_17 : decode cX7_propose 17 = .ok (.istore 4, 2) := by decide +kernel
theorem dX7_propose_19 : decode cX7_propose 19 = .ok (.aload_n 0, 1) := by decide +kernel
theorem dX7_propose_20 : decode cX7_propose 20 = .ok (.getfield 9, 3) := by decide +kernel
theorem dX7_propose_23 : decode cX7_propose 23 = .ok (.iload 4, 2) := by decide +kernel
theorem dX7_propose_25 : decode cX7_propose 25 = .ok (.iload_n 1, 1) := by decide +kernel
theorem dX7_propose_26 : decode cX7_propose 26 = .ok (.iastore, 1) := by decide +kernel
theorem dX7_propose_27 : decode cX7_propose 27 = .ok (.aload_n 0, 1) := by decide +kernel
theorem dX7_propose_28 : decode cX7_propose 28 = .ok (.getfield 13, 3) := by decide +kernel
theorem dX7_propose_31 : decode cX7_propose 31 = .ok (.iload 4, 2) := by decide +kernel
theorem dX7_propose_33 : decode cX7_propose 33 = .ok (.iload_n 2, 1) := by decide +kernel
theorem dX7_propose_34 : decode cX7_propose 34 = .ok (.iastore, 1) := by decide +kernel
theorem dX7_propose_35 : decode cX7_propose 35 = .ok (.aload_n 0, 1) := by decide +kernel
theorem dX7_propose_36 : decode cX7_propose 36 = .ok (.getfield 16, 3) := by decide +kernel
theorem dX7_propose_39 : decode cX7_propose 39 = .ok (.iload 4, 2) := by decide +kernel
theorem dX7_propose_41 : decode cX7_propose 41 = .ok (.iload_n 3, 1) := by decide +kernel
theorem dX7_propose_42 : decode cX7_propose 42 = .ok (.iastore, 1) := by decide +kernel
theorem dX7_propose_43 : decode cX7_propose 43 = .ok (.aload_n 0, 1) := by decide +kernel
theorem dX7_propose_44 : decode cX7_propose 44 = .ok (.dup, 1) := by decide +kernel
theorem dX7_propose_45 : decode cX7_propose 45 = .ok (.getfield 23, 3) := by decide +kernel
theorem dX7_propose_48 : decode cX7_propose 48 = .ok (.iconst 1, 1) := by decide +kernel
theorem dX7_propose_49 : decode cX7_propose 49 = .ok (.iadd, 1) := by decide +kernel
theorem dX7_propose_50 : decode cX7_propose 50 = .ok (.putfield 23, 3) := by decide +kernel
theorem dX7_propose_53 : decode cX7_propose 53 = .ok (.return_, 1) := by decide +kernel
theorem dX7_acceptProposed_0 : decode cX7_acceptProposed 0 = .ok (.aload_n 0, 1) := by decide +kernel
theorem dX7_acceptProposed_1 : decode cX7_acceptProposed 1 = .ok (.getfield 23, 3) := by decide +kernel
theorem dX7_acceptProposed_4 : decode cX7_acceptProposed 4 = .ok (.istore_n 1, 1) := by decide +kernel
theorem dX7_acceptProposed_5 : decode cX7_acceptProposed 5 = .ok (.aload_n 0, 1) := by decide +kernel
theorem dX7_acceptProposed_6 : decode cX7_acceptProposed 6 = .ok (.dup, 1) := by decide +kernel
theorem dX7_acceptProposed_7 : decode cX7_acceptProposed 7 = .ok (.getfield 19, 3) := by decide +kernel
theorem dX7_acceptProposed_10 : decode cX7_acceptProposed 10 = .ok (.iload_n 1, 1) := by decide +kernel
theorem dX7_acceptProposed_11 : decode cX7_acceptProposed 11 = .ok (.iadd, 1) := by decide +kernel
theorem dX7_acceptProposed_12 : decode cX7_acceptProposed 12 = .ok (.putfield 19, 3) := by decide +kernel
theorem dX7_acceptProposed_15 : decode cX7_acceptProposed 15 = .ok (.aload_n 0, 1) := by decide +kernel
theorem dX7_acceptProposed_16 : decode cX7_acceptProposed 16 = .ok (.iconst 0, 1) := by decide +kernel
theorem dX7_acceptProposed_17 : decode cX7_acceptProposed 17 = .ok (.putfield 23, 3) := by decide +kernel
theorem dX7_acceptProposed_20 : decode cX7_acceptProposed 20 = .ok (.iload_n 1, 1) := by decide +kernel
theorem dX7_acceptProposed_21 : decode cX7_acceptProposed 21 = .ok (.ireturn, 1) := by decide +kernel
theorem dX7_dropProposed_0 : decode cX7_dropProposed 0 = .ok (.aload_n 0, 1) := by decide +kernel
theorem dX7_dropProposed_1 : decode cX7_dropProposed 1 = .ok (.iconst 0, 1) := by decide +kernel
theorem dX7_dropProposed_2 : decode cX7_dropProposed 2 = .ok (.putfield 23, 3) := by decide +kernel
theorem dX7_dropProposed_5 : decode cX7_dropProposed 5 = .ok (.return_, 1) := by decide +kernel
theorem dX7_inForce_0 : decode cX7_inForce 0 = .ok (.iload_n 1, 1) := by decide +kernel
theorem dX7_inForce_1 : decode cX7_inForce 1 = .ok (.iconst 0, 1) := by decide +kernel
theorem dX7_inForce_2 : decode cX7_inForce 2 = .ok (.getstatic 30, 3) := by decide +kernel
theorem dX7_inForce_5 : decode cX7_inForce 5 = .ok (.arraylength, 1) := by decide +kernel
theorem dX7_inForce_6 : decode cX7_inForce 6 = .ok (.iconst 1, 1) := by decide +kernel
theorem dX7_inForce_7 : decode cX7_inForce 7 = .ok (.isub, 1) := by decide +kernel
theorem dX7_inForce_8 : decode cX7_inForce 8 = .ok (.invokestatic 33, 3) := by decide +kernel
theorem dX7_inForce_11 : decode cX7_inForce 11 = .ok (.ifCond .eq 11, 3) := by decide +kernel
theorem dX7_inForce_14 : decode cX7_inForce 14 = .ok (.getstatic 30, 3) := by decide +kernel
theorem dX7_inForce_17 : decode cX7_inForce 17 = .ok (.iload_n 1, 1) := by decide +kernel
theorem dX7_inForce_18 : decode cX7_inForce 18 = .ok (.iaload, 1) := by decide +kernel
theorem dX7_inForce_19 : decode cX7_inForce 19 = .ok (.goto 4, 3) := by decide +kernel
theorem dX7_inForce_22 : decode cX7_inForce 22 = .ok (.iconst 0, 1) := by decide +kernel
theorem dX7_inForce_23 : decode cX7_inForce 23 = .ok (.istore_n 3, 1) := by decide +kernel
theorem dX7_inForce_24 : decode cX7_inForce 24 = .ok (.iconst 0, 1) := by decide +kernel
theorem dX7_inForce_25 : decode cX7_inForce 25 = .ok (.istore 4, 2) := by decide +kernel
theorem dX7_inForce_27 : decode cX7_inForce 27 = .ok (.iconst 0, 1) := by decide +kernel
theorem dX7_inForce_28 : decode cX7_inForce 28 = .ok (.istore 5, 2) := by decide +kernel
theorem dX7_inForce_30 : decode cX7_inForce 30 = .ok (.iload 5, 2) := by decide +kernel
theorem dX7_inForce_32 : decode cX7_inForce 32 = .ok (.aload_n 0, 1) := by decide +kernel
theorem dX7_inForce_33 : decode cX7_inForce 33 = .ok (.getfield 19, 3) := by decide +kernel
theorem dX7_inForce_36 : decode cX7_inForce 36 = .ok (.if_icmp .ge 67, 3) := by decide +kernel
theorem dX7_inForce_39 : decode cX7_inForce 39 = .ok (.iload 5, 2) := by decide +kernel
theorem dX7_inForce_41 : decode cX7_inForce 41 = .ok (.bipush 60, 2) := by decide +kernel
theorem dX7_inForce_43 : decode cX7_inForce 43 = .ok (.if_icmp .ge 60, 3) := by decide +kernel
theorem dX7_inForce_46 : decode cX7_inForce 46 = .ok (.aload_n 0, 1) := by decide +kernel
theorem dX7_inForce_47 : decode cX7_inForce 47 = .ok (.getfield 9, 3) := by decide +kernel
theorem dX7_inForce_50 : decode cX7_inForce 50 = .ok (.iload 5, 2) := by decide +kernel
theorem dX7_inForce_52 : decode cX7_inForce 52 = .ok (.iaload, 1) := by decide +kernel
theorem dX7_inForce_53 : decode cX7_inForce 53 = .ok (.iload_n 1, 1) := by decide +kernel
theorem dX7_inForce_54 : decode cX7_inForce 54 = .ok (.if_icmp .ne 43, 3) := by decide +kernel
theorem dX7_inForce_57 : decode cX7_inForce 57 = .ok (.aload_n 0, 1) := by decide +kernel
theorem dX7_inForce_58 : decode cX7_inForce 58 = .ok (.getfield 16, 3) := by decide +kernel
theorem dX7_inForce_61 : decode cX7_inForce 61 = .ok (.iload 5, 2) := by decide +kernel
theorem dX7_inForce_63 : decode cX7_inForce 63 = .ok (.iaload, 1) := by decide +kernel
theorem dX7_inForce_64 : decode cX7_inForce 64 = .ok (.iload_n 2, 1) := by decide +kernel
theorem dX7_inForce_65 : decode cX7_inForce 65 = .ok (.if_icmp .gt 32, 3) := by decide +kernel
theorem dX7_inForce_68 : decode cX7_inForce 68 = .ok (.aload_n 0, 1) := by decide +kernel
theorem dX7_inForce_69 : decode cX7_inForce 69 = .ok (.getfield 16, 3) := by decide +kernel
theorem dX7_inForce_72 : decode cX7_inForce 72 = .ok (.iload 5, 2) := by decide +kernel
theorem dX7_inForce_74 : decode cX7_inForce 74 = .ok (.iaload, 1) := by decide +kernel
theorem dX7_inForce_75 : decode cX7_inForce 75 = .ok (.iload 4, 2) := by decide +kernel
theorem dX7_inForce_77 : decode cX7_inForce 77 = .ok (.if_icmp .lt 20, 3) := by decide +kernel
theorem dX7_inForce_80 : decode cX7_inForce 80 = .ok (.aload_n 0, 1) := by decide +kernel
theorem dX7_inForce_81 : decode cX7_inForce 81 = .ok (.getfield 16, 3) := by decide +kernel
theorem dX7_inForce_84 : decode cX7_inForce 84 = .ok (.iload 5, 2) := by decide +kernel
theorem dX7_inForce_86 : decode cX7_inForce 86 = .ok (.iaload, 1) := by decide +kernel
theorem dX7_inForce_87 : decode cX7_inForce 87 = .ok (.istore 4, 2) := by decide +kernel
theorem dX7_inForce_89 : decode cX7_inForce 89 = .ok (.aload_n 0, 1) := by decide +kernel
theorem dX7_inForce_90 : decode cX7_inForce 90 = .ok (.getfield 13, 3) := by decide +kernel
theorem dX7_inForce_93 : decode cX7_inForce 93 = .ok (.iload 5, 2) := by decide +kernel
theorem dX7_inForce_95 : decode cX7_inForce 95 = .ok (.iaload, 1) := by decide +kernel
theorem dX7_inForce_96 : decode cX7_inForce 96 = .ok (.istore_n 3, 1) := by decide +kernel
theorem dX7_inForce_97 : decode cX7_inForce 97 = .ok (.iinc 5 1, 3) := by decide +kernel
theorem dX7_inForce_100 : decode cX7_inForce 100 = .ok (.goto (-70), 3) := by decide +kernel
theorem dX7_inForce_103 : decode cX7_inForce 103 = .ok (.iload_n 3, 1) := by decide +kernel
theorem dX7_inForce_104 : decode cX7_inForce 104 = .ok (.ireturn, 1) := by decide +kernel
theorem dX8_init_0 : decode cX8_init 0 = .ok (.aload_n 0, 1) := by decide +kernel
theorem dX8_init_1 : decode cX8_init 1 = .ok (.invokespecial 3, 3) := by decide +kernel
theorem dX8_init_4 : decode cX8_init 4 = .ok (.aload_n 0, 1) := by decide +kernel
theorem dX8_init_5 : decode cX8_init 5 = .ok (.sipush 200, 3) := by decide +kernel
theorem dX8_init_8 : decode cX8_init 8 = .ok (.newarray .int, 2) := by decide +kernel
theorem dX8_init_10 : decode cX8_init 10 = .ok (.putfield 11, 3) := by decide +kernel
theorem dX8_init_13 : decode cX8_init 13 = .ok (.aload_n 0, 1) := by decide +kernel
theorem dX8_init_14 : decode cX8_init 14 = .ok (.iconst 0, 1) := by decide +kernel
theorem dX8_init_15 : decode cX8_init 15 = .ok (.putfield 15, 3) := by decide +kernel
theorem dX8_init_18 : decode cX8_init 18 = .ok (.return_, 1) := by decide +kernel
theorem dX8_hasRoomFor_0 : decode cX8_hasRoomFor 0 = .ok (.aload_n 0, 1) := by decide +kernel
theorem dX8_hasRoomFor_1 : decode cX8_hasRoomFor 1 = .ok (.getfield 15, 3) := by decide +kernel
theorem dX8_hasRoomFor_4 : decode cX8_hasRoomFor 4 = .ok (.iload_n 1, 1) := by decide +kernel
theorem dX8_hasRoomFor_5 : decode cX8_hasRoomFor 5 = .ok (.iadd, 1) := by decide +kernel
theorem dX8_hasRoomFor_6 : decode cX8_hasRoomFor 6 = .ok (.sipush 200, 3) := by decide +kernel
theorem dX8_hasRoomFor_9 : decode cX8_hasRoomFor 9 = .ok (.if_icmp .gt 7, 3) := by decide +kernel
theorem dX8_hasRoomFor_12 : decode cX8_hasRoomFor 12 = .ok (.iconst 1, 1) := by decide +kernel
theorem dX8_hasRoomFor_13 : decode cX8_hasRoomFor 13 = .ok (.goto 4, 3) := by decide +kernel
theorem dX8_hasRoomFor_16 : decode cX8_hasRoomFor 16 = .ok (.iconst 0, 1) := by decide +kernel
theorem dX8_hasRoomFor_17 : decode cX8_hasRoomFor 17 = .ok (.ireturn, 1) := by decide +kernel
theorem dX8_addNumber_0 : decode cX8_addNumber 0 = .ok (.bipush 24, 2) := by decide +kernel
theorem dX8_addNumber_2 : decode cX8_addNumber 2 = .ok (.istore_n 2, 1) := by decide +kernel
theorem dX8_addNumber_3 : decode cX8_addNumber 3 = .ok (.iload_n 2, 1) := by decide +kernel
theorem dX8_addNumber_4 : decode cX8_addNumber 4 = .ok (.ifCond .lt 20, 3) := by decide +kernel
theorem dX8_addNumber_7 : decode cX8_addNumber 7 = .ok (.aload_n 0, 1) := by decide +kernel
theorem dX8_addNumber_8 : decode cX8_addNumber 8 = .ok (.iload_n 1, 1) := by decide +kernel
theorem dX8_addNumber_9 : decode cX8_addNumber 9 = .ok (.iload_n 2, 1) := by decide +kernel
theorem dX8_addNumber_10 : decode cX8_addNumber 10 = .ok (.iushr, 1) := by decide +kernel
theorem dX8_addNumber_11 : decode cX8_addNumber 11 = .ok (.sipush 255, 3) := by decide +kernel
theorem dX8_addNumber_14 : decode cX8_addNumber 14 = .ok (.iand, 1) := by decide +kernel
theorem dX8_addNumber_15 : decode cX8_addNumber 15 = .ok (.invokevirtual 19, 3) := by decide +kernel
theorem dX8_addNumber_18 : decode cX8_addNumber 18 = .ok (.iinc 2 (-8), 3) := by decide +kernel
theorem dX8_addNumber_21 : decode cX8_addNumber 21 = .ok (.goto (-18), 3) := by decide +kernel
theorem dX8_addNumber_24 : decode cX8_addNumber 24 = .ok (.return_, 1) := by decide +kernel
theorem dX8_addByte_0 : decode cX8_addByte 0 = .ok (.aload_n 0, 1) := by decide +kernel
theorem dX8_addByte_1 : decode cX8_addByte 1 = .ok (.getfield 15, 3) := by decide +kernel
theorem dX8_addByte_4 : decode cX8_addByte 4 = .ok (.sipush 200, 3) := by decide +kernel
theorem dX8_addByte_7 : decode cX8_addByte 7 = .ok (.if_icmp .ge 23, 3) := by decide +kernel
theorem dX8_addByte_10 : decode cX8_addByte 10 = .ok (.aload_n 0, 1) := by decide +kernel
theorem dX8_addByte_11 : decode cX8_addByte 11 = .ok (.getfield 11, 3) := by decide +kernel
theorem dX8_addByte_14 : decode cX8_addByte 14 = .ok (.aload_n 0, 1) := by decide +kernel
theorem dX8_addByte_15 : decode cX8_addByte 15 = .ok (.getfield 15, 3) := by decide +kernel
theorem dX8_addByte_18 : decode cX8_addByte 18 = .ok (.iload_n 1, 1) := by decide +kernel
theorem dX8_addByte_19 : decode cX8_addByte 19 = .ok (.iastore, 1) := by decide +kernel
theorem dX8_addByte_20 : decode cX8_addByte 20 = .ok (.aload_n 0, 1) := by decide +kernel
theorem dX8_addByte_21 : decode cX8_addByte 21 = .ok (.dup, 1) := by decide +kernel
theorem dX8_addByte_22 : decode cX8_addByte 22 = .ok (.getfield 15, 3) := by decide +kernel
theorem dX8_addByte_25 : decode cX8_addByte 25 = .ok (.iconst 1, 1) := by decide +kernel
theorem dX8_addByte_26 : decode cX8_addByte 26 = .ok (.iadd, 1) := by decide +kernel
theorem dX8_addByte_27 : decode cX8_addByte 27 = .ok (.putfield 15, 3) := by decide +kernel
theorem dX8_addByte_30 : decode cX8_addByte 30 = .ok (.return_, 1) := by decide +kernel
theorem dX8_cutTo_0 : decode cX8_cutTo 0 = .ok (.iload_n 1, 1) := by decide +kernel
theorem dX8_cutTo_1 : decode cX8_cutTo 1 = .ok (.iconst 0, 1) := by decide +kernel
theorem dX8_cutTo_2 : decode cX8_cutTo 2 = .ok (.aload_n 0, 1) := by decide +kernel
theorem dX8_cutTo_3 : decode cX8_cutTo 3 = .ok (.getfield 15, 3) := by decide +kernel
theorem dX8_cutTo_6 : decode cX8_cutTo 6 = .ok (.invokestatic 23, 3) := by decide +kernel
theorem dX8_cutTo_9 : decode cX8_cutTo 9 = .ok (.ifCond .ne 5, 3) := by decide +kernel
theorem dX8_cutTo_12 : decode cX8_cutTo 12 = .ok (.iconst 0, 1) := by decide +kernel
theorem dX8_cutTo_13 : decode cX8_cutTo 13 = .ok (.ireturn, 1) := by decide +kernel
theorem dX8_cutTo_14 : decode cX8_cutTo 14 = .ok (.aload_n 0, 1) := by decide +kernel
theorem dX8_cutTo_15 : decode cX8_cutTo 15 = .ok (.iload_n 1, 1) := by decide +kernel
theorem dX8_cutTo_16 : decode cX8_cutTo 16 = .ok (.putfield 15, 3) := by decide +kernel
theorem dX8_cutTo_19 : decode cX8_cutTo 19 = .ok (.iconst 1, 1) := by decide +kernel
theorem dX8_cutTo_20 : decode cX8_cutTo 20 = .ok (.ireturn, 1) := by decide +kernel
theorem dX8_byteAt_0 : decode cX8_byteAt 0 = .ok (.iload_n 1, 1) := by decide +kernel
theorem dX8_byteAt_1 : decode cX8_byteAt 1 = .ok (.ifCond .lt 20, 3) := by decide +kernel
theorem dX8_byteAt_4 : decode cX8_byteAt 4 = .ok (.iload_n 1, 1) := by decide +kernel
theorem dX8_byteAt_5 : decode cX8_byteAt 5 = .ok (.aload_n 0, 1) := by decide +kernel
theorem dX8_byteAt_6 : decode cX8_byteAt 6 = .ok (.getfield 15, 3) := by decide +kernel
theorem dX8_byteAt_9 : decode cX8_byteAt 9 = .ok (.if_icmp .ge 12, 3) := by decide +kernel
theorem dX8_byteAt_12 : decode cX8_byteAt 12 = .ok (.aload_n 0, 1) := by decide +kernel
theorem dX8_byteAt_13 : decode cX8_byteAt 13 = .ok (.getfield 11, 3) := by decide +kernel
theorem dX8_byteAt_16 : decode cX8_byteAt 16 = .ok (.iload_n 1, 1) := by decide +kernel
theorem dX8_byteAt_17 : decode cX8_byteAt 17 = .ok (.iaload, 1) := by decide +kernel
theorem dX8_byteAt_18 : decode cX8_byteAt 18 = .ok (.goto 4, 3) := by decide +kernel
theorem dX8_byteAt_21 : decode cX8_byteAt 21 = .ok (.iconst (-1), 1) := by decide +kernel
theorem dX8_byteAt_22 : decode cX8_byteAt 22 = .ok (.ireturn, 1) := by decide +kernel
theorem dX9_init_0 : decode cX9_init 0 = .ok (.aload_n 0, 1) := by decide +kernel
theorem dX9_init_1 : decode cX9_init 1 = .ok (.invokespecial 3, 3) := by decide +kernel
theorem dX9_init_4 : decode cX9_init 4 = .ok (.aload_n 0, 1) := by decide +kernel
theorem dX9_init_5 : decode cX9_init 5 = .ok (.aload_n 1, 1) := by decide +kernel
theorem dX9_init_6 : decode cX9_init 6 = .ok (.putfield 9, 3) := by decide +kernel
theorem dX9_init_9 : decode cX9_init 9 = .ok (.aload_n 0, 1) := by decide +kernel
theorem dX9_init_10 : decode cX9_init 10 = .ok (.aload_n 2, 1) := by decide +kernel
theorem dX9_init_11 : decode cX9_init 11 = .ok (.putfield 15, 3) := by decide +kernel
theorem dX9_init_14 : decode cX9_init 14 = .ok (.aload_n 0, 1) := by decide +kernel
theorem dX9_init_15 : decode cX9_init 15 = .ok (.iconst 0, 1) := by decide +kernel
theorem dX9_init_16 : decode cX9_init 16 = .ok (.putfield 19, 3) := by decide +kernel
theorem dX9_init_19 : decode cX9_init 19 = .ok (.aload_n 0, 1) := by decide +kernel
theorem dX9_init_20 : decode cX9_init 20 = .ok (.iconst 0, 1) := by decide +kernel
theorem dX9_init_21 : decode cX9_init 21 = .ok (.putfield 23, 3) := by decide +kernel
theorem dX9_init_24 : decode cX9_init 24 = .ok (.aload_n 0, 1) := by decide +kernel
theorem dX9_init_25 : decode cX9_init 25 = .ok (.iconst 0, 1) := by decide +kernel
theorem dX9_init_26 : decode cX9_init 26 = .ok (.putfield 26, 3) := by decide +kernel
theorem dX9_init_29 : decode cX9_init 29 = .ok (.return_, 1) := by decide +kernel
theorem dX9_readText_0 : decode cX9_readText 0 = .ok (.aload_n 0, 1) := by decide +kernel
theorem dX9_readText_1 : decode cX9_readText 1 = .ok (.iconst 0, 1) := by decide +kernel
theorem dX9_readText_2 : decode cX9_readText 2 = .ok (.putfield 19, 3) := by decide +kernel
theorem dX9_readText_5 : decode cX9_readText 5 = .ok (.aload_n 0, 1) := by decide +kernel
theorem dX9_readText_6 : decode cX9_readText 6 = .ok (.iconst 0, 1) := by decide +kernel
theorem dX9_readText_7 : decode cX9_readText 7 = .ok (.putfield 23, 3) := by decide +kernel
theorem dX9_readText_10 : decode cX9_readText 10 = .ok (.aload_n 0, 1) := by decide +kernel
theorem dX9_readText_11 : decode cX9_readText 11 = .ok (.iconst 0, 1) := by decide +kernel
theorem dX9_readText_12 : decode cX9_readText 12 = .ok (.putfield 26, 3) := by decide +kernel
theorem dX9_readText_15 : decode cX9_readText 15 = .ok (.iconst 1, 1) := by decide +kernel
theorem dX9_readText_16 : decode cX9_readText 16 = .ok (.istore_n 1, 1) := by decide +kernel
theorem dX9_readText_17 : decode cX9_readText 17 = .ok (.iconst 0, 1) := by decide +kernel
theorem dX9_readText_18 : decode cX9_readText 18 = .ok (.istore_n 2, 1) := by decide +kernel
theorem dX9_readText_19 : decode cX9_readText 19 = .ok (.iload_n 1, 1) := by decide +kernel
theorem dX9_readText_20 : decode cX9_readText 20 = .ok (.ifCond .eq 36, 3) := by decide +kernel
theorem dX9_readText_23 : decode cX9_readText 23 = .ok (.iload_n 2, 1) := by decide +kernel
theorem dX9_readText_24 : decode cX9_readText 24 = .ok (.sipush 200, 3) := by decide +kernel
theorem dX9_readText_27 : decode cX9_readText 27 = .ok (.if_icmp .gt 29, 3) := by decide +kernel
theorem dX9_readText_30 : decode cX9_readText 30 = .ok (.aload_n 0, 1) := by decide +kernel
theorem dX9_readText_31 : decode cX9_readText 31 = .ok (.invokevirtual 31, 3) := by decide +kernel
theorem dX9_readText_34 : decode cX9_readText 34 = .ok (.ifCond .eq 14, 3) := by decide +kernel
theorem dX9_readText_37 : decode cX9_readText 37 = .ok (.aload_n 0, 1) := by decide +kernel
theorem dX9_readText_38 : decode cX9_readText 38 = .ok (.invokevirtual 35, 3) := by decide +kernel
theorem dX9_readText_41 : decode cX9_readText 41 = .ok (.ifCond .eq 7, 3) := by decide +kernel
theorem dX9_readText_44 : decode cX9_readText 44 = .ok (.iconst 1, 1) := by decide +kernel
theorem dX9_readText_45 : decode cX9_readText 45 = .ok (.goto 4, 3) := by decide +kernel
theorem dX9_readText_48 : decode cX9_readText 48 = .ok (.iconst 0, 1) := by decide +kernel
theorem dX9_readText_49 : decode cX9_readText 49 = .ok (.istore_n 1, 1) := by decide +kernel
theorem dX9_readText_50 : decode cX9_readText 50 = .ok (.iinc 2 1, 3) := by decide +kernel
theorem dX9_readText_53 : decode cX9_readText 53 = .ok (.goto (-34), 3) := by decide +kernel
theorem dX9_readText_56 : decode cX9_readText 56 = .ok (.aload_n 0, 1) := by decide +kernel
theorem dX9_readText_57 : decode cX9_readText 57 = .ok (.getfield 23, 3) := by decide +kernel
theorem dX9_readText_60 : decode cX9_readText 60 = .ok (.ifCond .eq 12, 3) := by decide +kernel
theorem dX9_readText_63 : decode cX9_readText 63 = .ok (.aload_n 0, 1) := by decide +kernel
theorem dX9_readText_64 : decode cX9_readText 64 = .ok (.getfield 15, 3) := by decide +kernel
theorem dX9_readText_67 : decode cX9_readText 67 = .ok (.invokevirtual 38, 3) := by decide +kernel
theorem dX9_readText_70 : decode cX9_readText 70 = .ok (.iconst (-1), 1) := by decide +kernel
theorem dX9_readText_71 : decode cX9_readText 71 = .ok (.ireturn, 1) := by decide +kernel
theorem dX9_readText_72 : decode cX9_readText 72 = .ok (.aload_n 0, 1) := by decide +kernel
theorem dX9_readText_73 : decode cX9_readText 73 = .ok (.getfield 15, 3) := by decide +kernel
theorem dX9_readText_76 : decode cX9_readText 76 = .ok (.invokevirtual 43, 3) := by decide +kernel
theorem dX9_readText_79 : decode cX9_readText 79 = .ok (.ireturn, 1) := by decide +kernel
theorem dX9_readStatement_0 : decode cX9_readStatement 0 = .ok (.aload_n 0, 1) := by decide +kernel
theorem dX9_readStatement_1 : decode cX9_readStatement 1 = .ok (.invokevirtual 47, 3) := by decide +kernel
theorem dX9_readStatement_4 : decode cX9_readStatement 4 = .ok (.istore_n 1, 1) := by decide +kernel
theorem dX9_readStatement_5 : decode cX9_readStatement 5 = .ok (.iload_n 1, 1) := by decide +kernel
theorem dX9_readStatement_6 : decode cX9_readStatement 6 = .ok (.iconst (-1), 1) := by decide +kernel
theorem dX9_readStatement_7 : decode cX9_readStatement 7 = .ok (.if_icmp .eq 10, 3) := by decide +kernel
theorem dX9_readStatement_10 : decode cX9_readStatement 10 = .ok (.aload_n 0, 1) := by decide +kernel
theorem dX9_readStatement_11 : decode cX9_readStatement 11 = .ok (.invokevirtual 50, 3) := by decide +kernel
theorem dX9_readStatement_14 : decode cX9_readStatement 14 = .ok (.ifCond .ne 5, 3) := by decide +kernel
theorem dX9_readStatement_17 : decode cX9_readStatement 17 = .ok (.iconst 0, 1) := by decide +kernel
theorem dX9_readStatement_18 : decode cX9_readStatement 18 = .ok (.ireturn, 1) := by decide +kernel
theorem dX9_readStatement_19 : decode cX9_readStatement 19 = .ok (.aload_n 0, 1) := by decide +kernel
theorem dX9_readStatement_20 : decode cX9_readStatement 20 = .ok (.sipush 10000, 3) := by decide +kernel
theorem dX9_readStatement_23 : decode cX9_readStatement 23 = .ok (.invokevirtual 53, 3) := by decide +kernel
theorem dX9_readStatement_26 : decode cX9_readStatement 26 = .ok (.istore_n 2, 1) := by decide +kernel
theorem dX9_readStatement_27 : decode cX9_readStatement 27 = .ok (.iload_n 2, 1) := by decide +kernel
theorem dX9_readStatement_28 : decode cX9_readStatement 28 = .ok (.iconst (-1), 1) := by decide +kernel
theorem dX9_readStatement_29 : decode cX9_readStatement 29 = .ok (.if_icmp .ne 5, 3) := by decide +kernel
theorem dX9_readStatement_32 : decode cX9_readStatement 32 = .ok (.iconst 0, 1) := by decide +kernel
theorem dX9_readStatement_33 : decode cX9_readStatement 33 = .ok (.ireturn, 1) := by decide +kernel
theorem dX9_readStatement_34 : decode cX9_readStatement 34 = .ok (.aload_n 0, 1) := by decide +kernel
theorem dX9_readStatement_35 : decode cX9_readStatement 35 = .ok (.invokevirtual 57, 3) := by decide +kernel
theorem dX9_readStatement_38 : decode cX9_readStatement 38 = .ok (.istore_n 3, 1) := by decide +kernel
theorem dX9_readStatement_39 : decode cX9_readStatement 39 = .ok (.iload_n 3, 1) := by decide +kernel
theorem dX9_readStatement_40 : decode cX9_readStatement 40 = .ok (.iconst (-1), 1) := by decide +kernel
theorem dX9_readStatement_41 : decode cX9_readStatement 41 = .ok (.if_icmp .ne 5, 3) := by decide +kernel
theorem dX9_readStatement_44 : decode cX9_readStatement 44 = .ok (.iconst 0, 1) := by decide +kernel
theorem dX9_readStatement_45 : decode cX9_readStatement 45 = .ok (.ireturn, 1) := by decide +kernel
theorem dX9_readStatement_46 : decode cX9_readStatement 46 = .ok (.aload_n 0, 1) := by decide +kernel
theorem dX9_readStatement_47 : decode cX9_readStatement 47 = .ok (.getfield 15, 3) := by decide +kernel
theorem dX9_readStatement_50 : decode cX9_readStatement 50 = .ok (.iload_n 1, 1) := by decide +kernel
theorem dX9_readStatement_51 : decode cX9_readStatement 51 = .ok (.iload_n 2, 1) := by decide +kernel
theorem dX9_readStatement_52 : decode cX9_readStatement 52 = .ok (.iload_n 3, 1) := by decide +kernel
theorem dX9_readStatement_53 : decode cX9_readStatement 53 = .ok (.invokevirtual 60, 3) := by decide +kernel
theorem dX9_readStatement_56 : decode cX9_readStatement 56 = .ok (.iconst 1, 1) := by decide +kernel
theorem dX9_readStatement_57 : decode cX9_readStatement 57 = .ok (.ireturn, 1) := by decide +kernel
theorem dX9_readComma_0 : decode cX9_readComma 0 = .ok (.aload_n 0, 1) := by decide +kernel
theorem dX9_readComma_1 : decode cX9_readComma 1 = .ok (.invokevirtual 64, 3) := by decide +kernel
theorem dX9_readComma_4 : decode cX9_readComma 4 = .ok (.istore_n 1, 1) := by decide +kernel
theorem dX9_readComma_5 : decode cX9_readComma 5 = .ok (.iload_n 1, 1) := by decide +kernel
theorem dX9_readComma_6 : decode cX9_readComma 6 = .ok (.iconst (-1), 1) := by decide +kernel
theorem dX9_readComma_7 : decode cX9_readComma 7 = .ok (.if_icmp .ne 5, 3) := by decide +kernel
theorem dX9_readComma_10 : decode cX9_readComma 10 = .ok (.iconst 0, 1) := by decide +kernel
theorem dX9_readComma_11 : decode cX9_readComma 11 = .ok (.ireturn, 1) := by decide +kernel
theorem dX9_readComma_12 : decode cX9_readComma 12 = .ok (.iload_n 1, 1) := by decide +kernel
theorem dX9_readComma_13 : decode cX9_readComma 13 = .ok (.bipush 44, 2) := by decide +kernel
theorem dX9_readComma_15 : decode cX9_readComma 15 = .ok (.if_icmp .eq 13, 3) := by decide +kernel
theorem dX9_readComma_18 : decode cX9_readComma 18 = .ok (.aload_n 0, 1) := by decide +kernel
theorem dX9_readComma_19 : decode cX9_readComma 19 = .ok (.iconst 1, 1) := by decide +kernel
theorem dX9_readComma_20 : decode cX9_readComma 20 = .ok (.aload_n 0, 1) := by decide +kernel
theorem dX9_readComma_21 : decode cX9_readComma 21 = .ok (.getfield 19, 3) := by decide +kernel
theorem dX9_readComma_24 : decode cX9_readComma 24 = .ok (.invokevirtual 67, 3) := by decide +kernel
theorem dX9_readComma_27 : decode cX9_readComma 27 = .ok (.ireturn, 1) := by decide +kernel
theorem dX9_readComma_28 : decode cX9_readComma 28 = .ok (.aload_n 0, 1) := by decide +kernel
theorem dX9_readComma_29 : decode cX9_readComma 29 = .ok (.dup, 1) := by decide +kernel
theorem dX9_readComma_30 : decode cX9_readComma 30 = .ok (.getfield 19, 3) := by decide +kernel
theorem dX9_readComma_33 : decode cX9_readComma 33 = .ok (.iconst 1, 1) := by decide +kernel
theorem dX9_readComma_34 : decode cX9_readComma 34 = .ok (.iadd, 1) := by decide +kernel
theorem dX9_readComma_35 : decode cX9_readComma 35 = .ok (.putfield 19, 3) := by decide +kernel
theorem dX9_readComma_38 : decode cX9_readComma 38 = .ok (.iconst 1, 1) := by decide +kernel
theorem dX9_readComma_39 : decode cX9_readComma 39 = .ok (.ireturn, 1) := by decide +kernel
theorem dX9_readName_0 : decode cX9_readName 0 = .ok (.aload_n 0, 1) := by decide +kernel
theorem dX9_readName_1 : decode cX9_readName 1 = .ok (.invokevirtual 64, 3) := by decide +kernel
theorem dX9_readName_4 : decode cX9_readName 4 = .ok (.pop, 1) := by decide +kernel
theorem dX9_readName_5 : decode cX9_readName 5 = .ok (.aload_n 0, 1) := by decide +kernel
theorem dX9_readName_6 : decode cX9_readName 6 = .ok (.getfield 19, 3) := by decide +kernel
theorem dX9_readName_9 : decode cX9_readName 9 = .ok (.istore_n 1, 1) := by decide +kernel
theorem dX9_readName_10 : decode cX9_readName 10 = .ok (.aload_n 0, 1) := by decide +kernel
theorem dX9_readName_11 : decode cX9_readName 11 = .ok (.getfield 19, 3) := by decide +kernel
theorem dX9_readName_14 : decode cX9_readName 14 = .ok (.sipush 200, 3) := by decide +kernel
theorem dX9_readName_17 : decode cX9_readName 17 = .ok (.if_icmp .ge 37, 3) := by decide +kernel
theorem dX9_readName_20 : decode cX9_readName 20 = .ok (.aload_n 0, 1) := by decide +kernel
theorem dX9_readName_21 : decode cX9_readName 21 = .ok (.getfield 9, 3) := by decide +kernel
theorem dX9_readName_24 : decode cX9_readName 24 = .ok (.aload_n 0, 1) := by decide +kernel
theorem dX9_readName_25 : decode cX9_readName 25 = .ok (.getfield 19, 3) := by decide +kernel
theorem dX9_readName_28 : decode cX9_readName 28 = .ok (.invokevirtual 71, 3) := by decide +kernel
theorem dX9_readName_31 : decode cX9_readName 31 = .ok (.bipush 97, 2) := by decide +kernel
theorem dX9_readName_33 : decode cX9_readName 33 = .ok (.bipush 122, 2) := by decide +kernel
theorem dX9_readName_35 : decode cX9_readName 35 = .ok (.invokestatic 74, 3) := by decide +kernel
theorem dX9_readName_38 : decode cX9_readName 38 = .ok (.ifCond .eq 16, 3) := by decide +kernel
theorem dX9_readName_41 : decode cX9_readName 41 = .ok (.aload_n 0, 1) := by decide +kernel
theorem dX9_readName_42 : decode cX9_readName 42 = .ok (.dup, 1) := by decide +kernel
theorem dX9_readName_43 : decode cX9_readName 43 = .ok (.getfield 19, 3) := by decide +kernel
theorem dX9_readName_46 : decode cX9_readName 46 = .ok (.iconst 1, 1) := by decide +kernel
theorem dX9_readName_47 : decode cX9_readName 47 = .ok (.iadd, 1) := by decide +kernel
theorem dX9_readName_48 : decode cX9_readName 48 = .ok (.putfield 19, 3) := by decide +kernel
theorem dX9_readName_51 : decode cX9_readName 51 = .ok (.goto (-41), 3) := by decide +kernel
theorem dX9_readName_54 : decode cX9_readName 54 = .ok (.aload_n 0, 1) := by decide +kernel
theorem dX9_readName_55 : decode cX9_readName 55 = .ok (.iload_n 1, 1) := by decide +kernel
theorem dX9_readName_56 : decode cX9_readName 56 = .ok (.aload_n 0, 1) := by decide +kernel
theorem dX9_readName_57 : decode cX9_readName 57 = .ok (.getfield 19, 3) := by decide +kernel
theorem dX9_readName_60 : decode cX9_readName 60 = .ok (.invokevirtual 78, 3) := by decide +kernel
theorem dX9_readName_63 : decode cX9_readName 63 = .ok (.istore_n 2, 1) := by decide +kernel
theorem dX9_readName_64 : decode cX9_readName 64 = .ok (.iload_n 2, 1) := by decide +kernel
theorem dX9_readName_65 : decode cX9_readName 65 = .ok (.iconst (-1), 1) := by decide +kernel
theorem dX9_readName_66 : decode cX9_readName 66 = .ok (.if_icmp .ne 12, 3) := by decide +kernel
theorem dX9_readName_69 : decode cX9_readName 69 = .ok (.aload_n 0, 1) := by decide +kernel
theorem dX9_readName_70 : decode cX9_readName 70 = .ok (.iconst 1, 1) := by decide +kernel
theorem dX9_readName_71 : decode cX9_readName 71 = .ok (.iload_n 1, 1) := by decide +kernel
theorem dX9_readName_72 : decode cX9_readName 72 = .ok (.invokevirtual 67, 3) := by decide +kernel
theorem dX9_readName_75 : decode cX9_readName 75 = .ok (.pop, 1) := by decide +kernel
theorem dX9_readName_76 : decode cX9_readName 76 = .ok (.iconst (-1), 1) := by decide +kernel
theorem dX9_readName_77 : decode cX9_readName 77 = .ok (.ireturn, 1) := by decide +kernel
theorem dX9_readName_78 : decode cX9_readName 78 = .ok (.aload_n 0, 1) := by decide +kernel
theorem dX9_readName_79 : decode cX9_readName 79 = .ok (.getfield 15, 3) := by decide +kernel
theorem dX9_readName_82 : decode cX9_readName 82 = .ok (.invokevirtual 82, 3) := by decide +kernel
theorem dX9_readName_85 : decode cX9_readName 85 = .ok (.ifCond .eq 12, 3) := by decide +kernel
theorem dX9_readName_88 : decode cX9_readName 88 = .ok (.aload_n 0, 1) := by decide +kernel
theorem dX9_readName_89 : decode cX9_readName 89 = .ok (.iconst 3, 1) := by decide +kernel
theorem dX9_readName_90 : decode cX9_readName 90 = .ok (.iload_n 1, 1) := by decide +kernel
theorem dX9_readName_91 : decode cX9_readName 91 = .ok (.invokevirtual 67, 3) := by decide +kernel
theorem dX9_readName_94 : decode cX9_readName 94 = .ok (.pop, 1) := by decide +kernel
theorem dX9_readName_95 : decode cX9_readName 95 = .ok (.iconst (-1), 1) := by decide +kernel
theorem dX9_readName_96 : decode cX9_readName 96 = .ok (.ireturn, 1) := by decide +kernel
theorem dX9_readName_97 : decode cX9_readName 97 = .ok (.iload_n 2, 1) := by decide +kernel
theorem dX9_readName_98 : decode cX9_readName 98 = .ok (.ireturn, 1) := by decide +kernel
theorem dX9_readEquals_0 : decode cX9_readEquals 0 = .ok (.aload_n 0, 1) := by decide +kernel
theorem dX9_readEquals_1 : decode cX9_readEquals 1 = .ok (.invokevirtual 64, 3) := by decide +kernel
theorem dX9_readEquals_4 : decode cX9_readEquals 4 = .ok (.bipush 61, 2) := by decide +kernel
theorem dX9_readEquals_6 : decode cX9_readEquals 6 = .ok (.if_icmp .eq 13, 3) := by decide +kernel
theorem dX9_readEquals_9 : decode cX9_readEquals 9 = .ok (.aload_n 0, 1) := by decide +kernel
theorem dX9_readEquals_10 : decode cX9_readEquals 10 = .ok (.iconst 1, 1) := by decide +kernel
theorem dX9_readEquals_11 : decode cX9_readEquals 11 = .ok (.aload_n 0, 1) := by decide +kernel
theorem dX9_readEquals_12 : decode cX9_readEquals 12 = .ok (.getfield 19, 3) := by decide +kernel
theorem dX9_readEquals_15 : decode cX9_readEquals 15 = .ok (.invokevirtual 67, 3) := by decide +kernel
theorem dX9_readEquals_18 : decode cX9_readEquals 18 = .ok (.ireturn, 1) := by decide +kernel
theorem dX9_readEquals_19 : decode cX9_readEquals 19 = .ok (.aload_n 0, 1) := by decide +kernel
theorem dX9_readEquals_20 : decode cX9_readEquals 20 = .ok (.dup, 1) := by decide +kernel
theorem dX9_readEquals_21 : decode cX9_readEquals 21 = .ok (.getfield 19, 3) := by decide +kernel
theorem dX9_readEquals_24 : decode cX9_readEquals 24 = .ok (.iconst 1, 1) := by decide +kernel
theorem dX9_readEquals_25 : decode cX9_readEquals 25 = .ok (.iadd, 1) := by decide +kernel
theorem dX9_readEquals_26 : decode cX9_readEquals 26 = .ok (.putfield 19, 3) := by decide +kernel
theorem dX9_readEquals_29 : decode cX9_readEquals 29 = .ok (.iconst 1, 1) := by decide +kernel
theorem dX9_readEquals_30 : decode cX9_readEquals 30 = .ok (.ireturn, 1) := by decide +kernel
theorem dX9_readMonth_0 : decode cX9_readMonth 0 = .ok (.aload_n 0, 1) := by decide +kernel
theorem dX9_readMonth_1 : decode cX9_readMonth 1 = .ok (.invokevirtual 64, 3) := by decide +kernel
theorem dX9_readMonth_4 : decode cX9_readMonth 4 = .ok (.bipush 64, 2) := by decide +kernel
theorem dX9_readMonth_6 : decode cX9_readMonth 6 = .ok (.if_icmp .eq 5, 3) := by decide +kernel
theorem dX9_readMonth_9 : decode cX9_readMonth 9 = .ok (.iconst 0, 1) := by decide +kernel
theorem dX9_readMonth_10 : decode cX9_readMonth 10 = .ok (.ireturn, 1) := by decide +kernel
theorem dX9_readMonth_11 : decode cX9_readMonth 11 = .ok (.aload_n 0, 1) := by decide +kernel
theorem dX9_readMonth_12 : decode cX9_readMonth 12 = .ok (.dup, 1) := by decide +kernel
theorem dX9_readMonth_13 : decode cX9_readMonth 13 = .ok (.getfield 19, 3) := by decide +kernel
theorem dX9_readMonth_16 : decode cX9_readMonth 16 = .ok (.iconst 1, 1) := by decide +kernel
theorem dX9_readMonth_17 : decode cX9_readMonth 17 = .ok (.iadd, 1) := by decide +kernel
theorem dX9_readMonth_18 : decode cX9_readMonth 18 = .ok (.putfield 19, 3) := by decide +kernel
theorem dX9_readMonth_21 : decode cX9_readMonth 21 = .ok (.aload_n 0, 1) := by decide +kernel
theorem dX9_readMonth_22 : decode cX9_readMonth 22 = .ok (.bipush 60, 2) := by decide +kernel
theorem dX9_readMonth_24 : decode cX9_readMonth 24 = .ok (.invokevirtual 53, 3) := by decide +kernel
theorem dX9_readMonth_27 : decode cX9_readMonth 27 = .ok (.ireturn, 1) := by decide +kernel
theorem dX9_readNumber_0 : decode cX9_readNumber 0 = .ok (.aload_n 0, 1) := by decide +kernel
theorem dX9_readNumber_1 : decode cX9_readNumber 1 = .ok (.invokevirtual 64, 3) := by decide +kernel
theorem dX9_readNumber_4 : decode cX9_readNumber 4 = .ok (.bipush 48, 2) := by decide +kernel
theorem dX9_readNumber_6 : decode cX9_readNumber 6 = .ok (.bipush 57, 2) := by decide +kernel
theorem dX9_readNumber_8 : decode cX9_readNumber 8 = .ok (.invokestatic 74, 3) := by decide +kernel
theorem dX9_readNumber_11 : decode cX9_readNumber 11 = .ok (.ifCond .ne 15, 3) := by decide +kernel
theorem dX9_readNumber_14 : decode cX9_readNumber 14 = .ok (.aload_n 0, 1) := by decide +kernel
theorem dX9_readNumber_15 : decode cX9_readNumber 15 = .ok (.iconst 1, 1) := by decide +kernel
theorem dX9_readNumber_16 : decode cX9_readNumber 16 = .ok (.aload_n 0, 1) := by decide +kernel
theorem dX9_readNumber_17 : decode cX9_readNumber 17 = .ok (.getfield 19, 3) := by decide +kernel
theorem dX9_readNumber_20 : decode cX9_readNumber 20 = .ok (.invokevirtual 67, 3) := by decide +kernel
theorem dX9_readNumber_23 : decode cX9_readNumber 23 = .ok (.pop, 1) := by decide +kernel
theorem dX9_readNumber_24 : decode cX9_readNumber 24 = .ok (.iconst (-1), 1) := by decide +kernel
theorem dX9_readNumber_25 : decode cX9_readNumber 25 = .ok (.ireturn, 1) := by decide +kernel
theorem dX9_readNumber_26 : decode cX9_readNumber 26 = .ok (.aload_n 0, 1) := by decide +kernel
theorem dX9_readNumber_27 : decode cX9_readNumber 27 = .ok (.getfield 19, 3) := by decide +kernel
theorem dX9_readNumber_30 : decode cX9_readNumber 30 = .ok (.istore_n 2, 1) := by decide +kernel
theorem dX9_readNumber_31 : decode cX9_readNumber 31 = .ok (.iconst 0, 1) := by decide +kernel
theorem dX9_readNumber_32 : decode cX9_readNumber 32 = .ok (.istore_n 3, 1) := by decide +kernel
theorem dX9_readNumber_33 : decode cX9_readNumber 33 = .ok (.aload_n 0, 1) := by decide +kernel
theorem dX9_readNumber_34 : decode cX9_readNumber 34 = .ok (.getfield 19, 3) := by decide +kernel
theorem dX9_readNumber_37 : decode cX9_readNumber 37 = .ok (.sipush 200, 3) := by decide +kernel
theorem dX9_readNumber_40 : decode cX9_readNumber 40 = .ok (.if_icmp .ge 62, 3) := by decide +kernel
theorem dX9_readNumber_43 : decode cX9_readNumber 43 = .ok (.aload_n 0, 1) := by decide +kernel
theorem dX9_readNumber_44 : decode cX9_readNumber 44 = .ok (.getfield 9, 3) := by decide +kernel
theorem dX9_readNumber_47 : decode cX9_readNumber 47 = .ok (.aload_n 0, 1) := by decide +kernel
theorem dX9_readNumber_48 : decode cX9_readNumber 48 = .ok (.getfield 19, 3) := by decide +kernel
theorem dX9_readNumber_51 : decode cX9_readNumber 51 = .ok (.invokevirtual 71, 3) := by decide +kernel
theorem dX9_readNumber_54 : decode cX9_readNumber 54 = .ok (.bipush 48, 2) := by decide +kernel
theorem dX9_readNumber_56 : decode cX9_readNumber 56 = .ok (.bipush 57, 2) := by decide +kernel
theorem dX9_readNumber_58 : decode cX9_readNumber 58 = .ok (.invokestatic 74, 3) := by decide +kernel
theorem dX9_readNumber_61 : decode cX9_readNumber 61 = .ok (.ifCond .eq 41, 3) := by decide +kernel
theorem dX9_readNumber_64 : decode cX9_readNumber 64 = .ok (.iload_n 3, 1) := by decide +kernel
theorem dX9_readNumber_65 : decode cX9_readNumber 65 = .ok (.iload_n 1, 1) := by decide +kernel
theorem dX9_readNumber_66 : decode cX9_readNumber 66 = .ok (.if_icmp .gt 23, 3) := by decide +kernel
theorem dX9_readNumber_69 : decode cX9_readNumber 69 = .ok (.iload_n 3, 1) := by decide +kernel
theorem dX9_readNumber_70 : decode cX9_readNumber 70 = .ok (.bipush 10, 2) := by decide +kernel
theorem dX9_readNumber_72 : decode cX9_readNumber 72 = .ok (.imul, 1) := by decide +kernel
theorem dX9_readNumber_73 : decode cX9_readNumber 73 = .ok (.aload_n 0, 1) := by decide +kernel
theorem dX9_readNumber_74 : decode cX9_readNumber 74 = .ok (.getfield 9, 3) := by decide +kernel
theorem dX9_readNumber_77 : decode cX9_readNumber 77 = .ok (.aload_n 0, 1) := by decide +kernel
theorem dX9_readNumber_78 : decode cX9_readNumber 78 = .ok (.getfield 19, 3) := by decide +kernel
theorem dX9_readNumber_81 : decode cX9_readNumber 81 = .ok (.invokevirtual 71, 3) := by decide +kernel
theorem dX9_readNumber_84 : decode cX9_readNumber 84 = .ok (.bipush 48, 2) := by decide +kernel
theorem dX9_readNumber_86 : decode cX9_readNumber 86 = .ok (.isub, 1) := by decide +kernel
theorem dX9_readNumber_87 : decode cX9_readNumber 87 = .ok (.iadd, 1) := by decide +kernel
theorem dX9_readNumber_88 : decode cX9_readNumber 88 = .ok (.istore_n 3, 1) := by decide +kernel
theorem dX9_readNumber_89 : decode cX9_readNumber 89 = .ok (.aload_n 0, 1) := by decide +kernel
theorem dX9_readNumber_90 : decode cX9_readNumber 90 = .ok (.dup, 1) := by decide +kernel
theorem dX9_readNumber_91 : decode cX9_readNumber 91 = .ok (.getfield 19, 3) := by decide +kernel
theorem dX9_readNumber_94 : decode cX9_readNumber 94 = .ok (.iconst 1, 1) := by decide +kernel
theorem dX9_readNumber_95 : decode cX9_readNumber 95 = .ok (.iadd, 1) := by decide +kernel
theorem dX9_readNumber_96 : decode cX9_readNumber 96 = .ok (.putfield 19, 3) := by decide +kernel
theorem dX9_readNumber_99 : decode cX9_readNumber 99 = .ok (.goto (-66), 3) := by decide +kernel
theorem dX9_readNumber_102 : decode cX9_readNumber 102 = .ok (.iload_n 3, 1) := by decide +kernel
theorem dX9_readNumber_103 : decode cX9_readNumber 103 = .ok (.iload_n 1, 1) := by decide +kernel
theorem dX9_readNumber_104 : decode cX9_readNumber 104 = .ok (.if_icmp .le 12, 3) := by decide +kernel
theorem dX9_readNumber_107 : decode cX9_readNumber 107 = .ok (.aload_n 0, 1) := by decide +kernel
theorem dX9_readNumber_108 : decode cX9_readNumber 108 = .ok (.iconst 2, 1) := by decide +kernel
theorem dX9_readNumber_109 : decode cX9_readNumber 109 = .ok (.iload_n 2, 1) := by decide +kernel
theorem dX9_readNumber_110 : decode cX9_readNumber 110 = .ok (.invokevirtual 67, 3) := by decide +kernel
theorem dX9_readNumber_113 : decode cX9_readNumber 113 = .ok (.pop, 1) := by decide +kernel
theorem dX9_readNumber_114 : decode cX9_readNumber 114 = .ok (.iconst (-1), 1) := by decide +kernel
theorem dX9_readNumber_115 : decode cX9_readNumber 115 = .ok (.ireturn, 1) := by decide +kernel
theorem dX9_readNumber_116 : decode cX9_readNumber 116 = .ok (.iload_n 3, 1) := by decide +kernel
theorem dX9_readNumber_117 : decode cX9_readNumber 117 = .ok (.ireturn, 1) := by decide +kernel
theorem dX9_nextSign_0 : decode cX9_nextSign 0 = .ok (.aload_n 0, 1) := by decide +kernel
theorem dX9_nextSign_1 : decode cX9_nextSign 1 = .ok (.getfield 19, 3) := by decide +kernel
theorem dX9_nextSign_4 : decode cX9_nextSign 4 = .ok (.sipush 200, 3) := by decide +kernel
theorem dX9_nextSign_7 : decode cX9_nextSign 7 = .ok (.if_icmp .ge 32, 3) := by decide +kernel
theorem dX9_nextSign_10 : decode cX9_nextSign 10 = .ok (.aload_n 0, 1) := by decide +kernel
theorem dX9_nextSign_11 : decode cX9_nextSign 11 = .ok (.getfield 9, 3) := by decide +kernel
theorem dX9_nextSign_14 : decode cX9_nextSign 14 = .ok (.aload_n 0, 1) := by decide +kernel
theorem dX9_nextSign_15 : decode cX9_nextSign 15 = .ok (.getfield 19, 3) := by decide +kernel
theorem dX9_nextSign_18 : decode cX9_nextSign 18 = .ok (.invokevirtual 71, 3) := by decide +kernel
theorem dX9_nextSign_21 : decode cX9_nextSign 21 = .ok (.bipush 32, 2) := by decide +kernel
theorem dX9_nextSign_23 : decode cX9_nextSign 23 = .ok (.if_icmp .ne 16, 3) := by decide +kernel
theorem dX9_nextSign_26 : decode cX9_nextSign 26 = .ok (.aload_n 0, 1) := by decide +kernel
theorem dX9_nextSign_27 : decode cX9_nextSign 27 = .ok (.dup, 1) := by decide +kernel
theorem dX9_nextSign_28 : decode cX9_nextSign 28 = .ok (.getfield 19, 3) := by decide +kernel
theorem dX9_nextSign_31 : decode cX9_nextSign 31 = .ok (.iconst 1, 1) := by decide +kernel
theorem dX9_nextSign_32 : decode cX9_nextSign 32 = .ok (.iadd, 1) := by decide +kernel
theorem dX9_nextSign_33 : decode cX9_nextSign 33 = .ok (.putfield 19, 3) := by decide +kernel
theorem dX9_nextSign_36 : decode cX9_nextSign 36 = .ok (.goto (-36), 3) := by decide +kernel
theorem dX9_nextSign_39 : decode cX9_nextSign 39 = .ok (.aload_n 0, 1) := by decide +kernel
theorem dX9_nextSign_40 : decode cX9_nextSign 40 = .ok (.getfield 9, 3) := by decide +kernel
theorem dX9_nextSign_43 : decode cX9_nextSign 43 = .ok (.aload_n 0, 1) := by decide +kernel
theorem dX9_nextSign_44 : decode cX9_nextSign 44 = .ok (.getfield 19, 3) := by decide +kernel
theorem dX9_nextSign_47 : decode cX9_nextSign 47 = .ok (.invokevirtual 71, 3) := by decide +kernel
theorem dX9_nextSign_50 : decode cX9_nextSign 50 = .ok (.ireturn, 1) := by decide +kernel
theorem dX9_nameBetween_0 : decode cX9_nameBetween 0 = .ok (.iconst 0, 1) := by decide +kernel
theorem dX9_nameBetween_1 : decode cX9_nameBetween 1 = .ok (.istore_n 3, 1) := by decide +kernel
theorem dX9_nameBetween_2 : decode cX9_nameBetween 2 = .ok (.iload_n 3, 1) := by decide +kernel
theorem dX9_nameBetween_3 : decode cX9_nameBetween 3 = .ok (.bipush 8, 2) := by decide +kernel
theorem dX9_nameBetween_5 : decode cX9_nameBetween 5 = .ok (.if_icmp .ge 24, 3) := by decide +kernel
theorem dX9_nameBetween_8 : decode cX9_nameBetween 8 = .ok (.aload_n 0, 1) := by decide +kernel
theorem dX9_nameBetween_9 : decode cX9_nameBetween 9 = .ok (.iload_n 3, 1) := by decide +kernel
theorem dX9_nameBetween_10 : decode cX9_nameBetween 10 = .ok (.invokestatic 85, 3) := by decide +kernel
theorem dX9_nameBetween_13 : decode cX9_nameBetween 13 = .ok (.iload_n 1, 1) := by decide +kernel
theorem dX9_nameBetween_14 : decode cX9_nameBetween 14 = .ok (.iload_n 2, 1) := by decide +kernel
theorem dX9_nameBetween_15 : decode cX9_nameBetween 15 = .ok (.invokevirtual 89, 3) := by decide +kernel
theorem dX9_nameBetween_18 : decode cX9_nameBetween 18 = .ok (.ifCond .eq 5, 3) := by decide +kernel
theorem dX9_nameBetween_21 : decode cX9_nameBetween 21 = .ok (.iload_n 3, 1) := by decide +kernel
theorem dX9_nameBetween_22 : decode cX9_nameBetween 22 = .ok (.ireturn, 1) := by decide +kernel
theorem dX9_nameBetween_23 : decode cX9_nameBetween 23 = .ok (.iinc 3 1, 3) := by decide +kernel
theorem dX9_nameBetween_26 : decode cX9_nameBetween 26 = .ok (.goto (-24), 3) := by decide +kernel
theorem dX9_nameBetween_29 : decode cX9_nameBetween 29 = .ok (.iconst (-1), 1) := by decide +kernel
theorem dX9_nameBetween_30 : decode cX9_nameBetween 30 = .ok (.ireturn, 1) := by decide +kernel
theorem dX9_standsBetween_0 : decode cX9_standsBetween 0 = .ok (.aload_n 1, 1) := by decide +kernel
theorem dX9_standsBetween_1 : decode cX9_standsBetween 1 = .ok (.invokevirtual 93, 3) := by decide +kernel
theorem dX9_standsBetween_4 : decode cX9_standsBetween 4 = .ok (.iload_n 3, 1) := by decide +kernel
theorem dX9_standsBetween_5 : decode cX9_standsBetween 5 = .ok (.iload_n 2, 1) := by decide +kernel
theorem dX9_standsBetween_6 : decode cX9_standsBetween 6 = .ok (.isub, 1) := by decide +kernel
theorem dX9_standsBetween_7 : decode cX9_standsBetween 7 = .ok (.if_icmp .eq 5, 3) := by decide +kernel
theorem dX9_standsBetween_10 : decode cX9_standsBetween 10 = .ok (.iconst 0, 1) := by decide +kernel
theorem dX9_standsBetween_11 : decode cX9_standsBetween 11 = .ok (.ireturn, 1) := by decide +kernel
theorem dX9_standsBetween_12 : decode cX9_standsBetween 12 = .ok (.iconst 0, 1) := by decide +kernel
theorem dX9_standsBetween_13 : decode cX9_standsBetween 13 = .ok (.istore 4, 2) := by decide +kernel
theorem dX9_standsBetween_15 : decode cX9_standsBetween 15 = .ok (.iload 4, 2) := by decide +kernel
theorem dX9_standsBetween_17 : decode cX9_standsBetween 17 = .ok (.aload_n 1, 1) := by decide +kernel
theorem dX9_standsBetween_18 : decode cX9_standsBetween 18 = .ok (.invokevirtual 93, 3) := by decide +kernel
theorem dX9_standsBetween_21 : decode cX9_standsBetween 21 = .ok (.if_icmp .ge 31, 3) := by decide +kernel
theorem dX9_standsBetween_24 : decode cX9_standsBetween 24 = .ok (.aload_n 1, 1) := by decide +kernel
theorem dX9_standsBetween_25 : decode cX9_standsBetween 25 = .ok (.iload 4, 2) := by decide +kernel
theorem dX9_standsBetween_27 : decode cX9_standsBetween 27 = .ok (.invokevirtual 98, 3) := by decide +kernel
theorem dX9_standsBetween_30 : decode cX9_standsBetween 30 = .ok (.aload_n 0, 1) := by decide +kernel
theorem dX9_standsBetween_31 : decode cX9_standsBetween 31 = .ok (.getfield 9, 3) := by decide +kernel
theorem dX9_standsBetween_34 : decode cX9_standsBetween 34 = .ok (.iload_n 2, 1) := by decide +kernel
theorem dX9_standsBetween_35 : decode cX9_standsBetween 35 = .ok (.iload 4, 2) := by decide +kernel
theorem dX9_standsBetween_37 : decode cX9_standsBetween 37 = .ok (.iadd, 1) := by decide +kernel
theorem dX9_standsBetween_38 : decode cX9_standsBetween 38 = .ok (.invokevirtual 71, 3) := by decide +kernel
theorem dX9_standsBetween_41 : decode cX9_standsBetween 41 = .ok (.if_icmp .eq 5, 3) := by decide +kernel
theorem dX9_standsBetween_44 : decode cX9_standsBetween 44 = .ok (.iconst 0, 1) := by decide +kernel
theorem dX9_standsBetween_45 : decode cX9_standsBetween 45 = .ok (.ireturn, 1) := by decide +kernel
theorem dX9_standsBetween_46 : decode cX9_standsBetween 46 = .ok (.iinc 4 1, 3) := by decide +kernel
theorem dX9_standsBetween_49 : decode cX9_standsBetween 49 = .ok (.goto (-34), 3) := by decide +kernel
theorem dX9_standsBetween_52 : decode cX9_standsBetween 52 = .ok (.iconst 1, 1) := by decide +kernel
theorem dX9_standsBetween_53 : decode cX9_standsBetween 53 = .ok (.ireturn, 1) := by decide +kernel
theorem dX9_wordOf_0 : decode cX9_wordOf 0 = .ok (.iload_n 0, 1) := by decide +kernel
theorem dX9_wordOf_1 : decode cX9_wordOf 1 = .ok (.tableswitch 64 0 6 #[43, 46, 49, 52, 55, 58, 61], 43) := by decide +kernel
theorem dX9_wordOf_44 : decode cX9_wordOf 44 = .ok (.ldc 102, 2) := by decide +kernel
theorem dX9_wordOf_46 : decode cX9_wordOf 46 = .ok (.areturn, 1) := by decide +kernel
theorem dX9_wordOf_47 : decode cX9_wordOf 47 = .ok (.ldc 104, 2) := by decide +kernel
theorem dX9_wordOf_49 : decode cX9_wordOf 49 = .ok (.areturn, 1) := by decide +kernel
theorem dX9_wordOf_50 : decode cX9_wordOf 50 = .ok (.ldc 106, 2) := by decide +kernel
theorem dX9_wordOf_52 : decode cX9_wordOf 52 = .ok (.areturn, 1) := by decide +kernel
theorem dX9_wordOf_53 : decode cX9_wordOf 53 = .ok (.ldc 108, 2) := by decide +kernel
theorem dX9_wordOf_55 : decode cX9_wordOf 55 = .ok (.areturn, 1) := by decide +kernel
theorem dX9_wordOf_56 : decode cX9_wordOf 56 = .ok (.ldc 110, 2) := by decide +kernel
theorem dX9_wordOf_58 : decode cX9_wordOf 58 = .ok (.areturn, 1) := by decide +kernel
theorem dX9_wordOf_59 : decode cX9_wordOf 59 = .ok (.ldc 112, 2) := by decide +kernel
theorem dX9_wordOf_61 : decode cX9_wordOf 61 = .ok (.areturn, 1) := by decide +kernel
theorem dX9_wordOf_62 : decode cX9_wordOf 62 = .ok (.ldc 114, 2) := by decide +kernel
theorem dX9_wordOf_64 : decode cX9_wordOf 64 = .ok (.areturn, 1) := by decide +kernel
theorem dX9_wordOf_65 : decode cX9_wordOf 65 = .ok (.ldc 116, 2) := by decide +kernel
theorem dX9_wordOf_67 : decode cX9_wordOf 67 = .ok (.areturn, 1) := by decide +kernel
theorem dX9_fail_0 : decode cX9_fail 0 = .ok (.aload_n 0, 1) := by decide +kernel
theorem dX9_fail_1 : decode cX9_fail 1 = .ok (.iload_n 1, 1) := by decide +kernel
theorem dX9_fail_2 : decode cX9_fail 2 = .ok (.putfield 23, 3) := by decide +kernel
theorem dX9_fail_5 : decode cX9_fail 5 = .ok (.aload_n 0, 1) := by decide +kernel
theorem dX9_fail_6 : decode cX9_fail 6 = .ok (.iload_n 2, 1) := by decide +kernel
theorem dX9_fail_7 : decode cX9_fail 7 = .ok (.putfield 26, 3) := by decide +kernel
theorem dX9_fail_10 : decode cX9_fail 10 = .ok (.iconst 0, 1) := by decide +kernel
theorem dX9_fail_11 : decode cX9_fail 11 = .ok (.ireturn, 1) := by decide +kernel
theorem dX10_init_0 : decode cX10_init 0 = .ok (.aload_n 0, 1) := by decide +kernel
theorem dX10_init_1 : decode cX10_init 1 = .ok (.invokespecial 1, 3) := by decide +kernel
theorem dX10_init_4 : decode cX10_init 4 = .ok (.aload_n 0, 1) := by decide +kernel
theorem dX10_init_5 : decode cX10_init 5 = .ok (.new 7, 3) := by decide +kernel
theorem dX10_init_8 : decode cX10_init 8 = .ok (.dup, 1) := by decide +kernel
theorem dX10_init_9 : decode cX10_init 9 = .ok (.invokespecial 9, 3) := by decide +kernel
theorem dX10_init_12 : decode cX10_init 12 = .ok (.putfield 10, 3) := by decide +kernel
theorem dX10_init_15 : decode cX10_init 15 = .ok (.aload_n 0, 1) := by decide +kernel
theorem dX10_init_16 : decode cX10_init 16 = .ok (.new 16, 3) := by decide +kernel
theorem dX10_init_19 : decode cX10_init 19 = .ok (.dup, 1) := by decide +kernel
theorem dX10_init_20 : decode cX10_init 20 = .ok (.invokespecial 18, 3) := by decide +kernel
theorem dX10_init_23 : decode cX10_init 23 = .ok (.putfield 19, 3) := by decide +kernel
theorem dX10_init_26 : decode cX10_init 26 = .ok (.aload_n 0, 1) := by decide +kernel
theorem dX10_init_27 : decode cX10_init 27 = .ok (.new 23, 3) := by decide +kernel
theorem dX10_init_30 : decode cX10_init 30 = .ok (.dup, 1) := by decide +kernel
theorem dX10_init_31 : decode cX10_init 31 = .ok (.aload_n 0, 1) := by decide +kernel
theorem dX10_init_32 : decode cX10_init 32 = .ok (.getfield 10, 3) := by decide +kernel
theorem dX10_init_35 : decode cX10_init 35 = .ok (.aload_n 0, 1) := by decide +kernel
theorem dX10_init_36 : decode cX10_init 36 = .ok (.getfield 19, 3) := by decide +kernel
theorem dX10_init_39 : decode cX10_init 39 = .ok (.invokespecial 25, 3) := by decide +kernel
theorem dX10_init_42 : decode cX10_init 42 = .ok (.putfield 28, 3) := by decide +kernel
theorem dX10_init_45 : decode cX10_init 45 = .ok (.aload_n 0, 1) := by decide +kernel
theorem dX10_init_46 : decode cX10_init 46 = .ok (.new 32, 3) := by decide +kernel
theorem dX10_init_49 : decode cX10_init 49 = .ok (.dup, 1) := by decide +kernel
theorem dX10_init_50 : decode cX10_init 50 = .ok (.aload_n 0, 1) := by decide +kernel
theorem dX10_init_51 : decode cX10_init 51 = .ok (.getfield 19, 3) := by decide +kernel
theorem dX10_init_54 : decode cX10_init 54 = .ok (.invokespecial 34, 3) := by decide +kernel
theorem dX10_init_57 : decode cX10_init 57 = .ok (.putfield 37, 3) := by decide +kernel
theorem dX10_init_60 : decode cX10_init 60 = .ok (.aload_n 0, 1) := by decide +kernel
theorem dX10_init_61 : decode cX10_init 61 = .ok (.new 41, 3) := by decide +kernel
theorem dX10_init_64 : decode cX10_init 64 = .ok (.dup, 1) := by decide +kernel
theorem dX10_init_65 : decode cX10_init 65 = .ok (.invokespecial 43, 3) := by decide +kernel
theorem dX10_init_68 : decode cX10_init 68 = .ok (.putfield 44, 3) := by decide +kernel
theorem dX10_init_71 : decode cX10_init 71 = .ok (.aload_n 0, 1) := by decide +kernel
theorem dX10_init_72 : decode cX10_init 72 = .ok (.new 48, 3) := by decide +kernel
theorem dX10_init_75 : decode cX10_init 75 = .ok (.dup, 1) := by decide +kernel
theorem dX10_init_76 : decode cX10_init 76 = .ok (.invokespecial 50, 3) := by decide +kernel
theorem dX10_init_79 : decode cX10_init 79 = .ok (.putfield 51, 3) := by decide +kernel
theorem dX10_init_82 : decode cX10_init 82 = .ok (.return_, 1) := by decide +kernel
theorem dX10_feed_0 : decode cX10_feed 0 = .ok (.aload_n 0, 1) := by decide +kernel
theorem dX10_feed_1 : decode cX10_feed 1 = .ok (.getfield 10, 3) := by decide +kernel
theorem dX10_feed_4 : decode cX10_feed 4 = .ok (.bipush 20, 2) := by decide +kernel
theorem dX10_feed_6 : decode cX10_feed 6 = .ok (.invokevirtual 55, 3) := by decide +kernel
theorem dX10_feed_9 : decode cX10_feed 9 = .ok (.ifCond .ne 5, 3) := by decide +kernel
theorem dX10_feed_12 : decode cX10_feed 12 = .ok (.iconst (-1), 1) := by decide +kernel
theorem dX10_feed_13 : decode cX10_feed 13 = .ok (.ireturn, 1) := by decide +kernel
theorem dX10_feed_14 : decode cX10_feed 14 = .ok (.aload_n 0, 1) := by decide +kernel
theorem dX10_feed_15 : decode cX10_feed 15 = .ok (.getfield 10, 3) := by decide +kernel
theorem dX10_feed_18 : decode cX10_feed 18 = .ok (.iload_n 1, 1) := by decide +kernel
theorem dX10_feed_19 : decode cX10_feed 19 = .ok (.invokevirtual 59, 3) := by decide +kernel
theorem dX10_feed_22 : decode cX10_feed 22 = .ok (.aload_n 0, 1) := by decide +kernel
theorem dX10_feed_23 : decode cX10_feed 23 = .ok (.getfield 10, 3) := by decide +kernel
theorem dX10_feed_26 : decode cX10_feed 26 = .ok (.iload_n 2, 1) := by decide +kernel
theorem dX10_feed_27 : decode cX10_feed 27 = .ok (.invokevirtual 59, 3) := by decide +kernel
theorem dX10_feed_30 : decode cX10_feed 30 = .ok (.aload_n 0, 1) := by decide +kernel
theorem dX10_feed_31 : decode cX10_feed 31 = .ok (.getfield 10, 3) := by decide +kernel
theorem dX10_feed_34 : decode cX10_feed 34 = .ok (.iload_n 3, 1) := by decide +kernel
theorem dX10_feed_35 : decode cX10_feed 35 = .ok (.invokevirtual 59, 3) := by decide +kernel
theorem dX10_feed_38 : decode cX10_feed 38 = .ok (.aload_n 0, 1) := by decide +kernel
theorem dX10_feed_39 : decode cX10_feed 39 = .ok (.getfield 10, 3) := by decide +kernel
theorem dX10_feed_42 : decode cX10_feed 42 = .ok (.iload 4, 2) := by decide +kernel
theorem dX10_feed_44 : decode cX10_feed 44 = .ok (.invokevirtual 59, 3) := by decide +kernel
theorem dX10_feed_47 : decode cX10_feed 47 = .ok (.aload_n 0, 1) := by decide +kernel
theorem dX10_feed_48 : decode cX10_feed 48 = .ok (.getfield 10, 3) := by decide +kernel
theorem dX10_feed_51 : decode cX10_feed 51 = .ok (.iload 5, 2) := by decide +kernel
theorem dX10_feed_53 : decode cX10_feed 53 = .ok (.invokevirtual 59, 3) := by decide +kernel
theorem dX10_feed_56 : decode cX10_feed 56 = .ok (.aload_n 0, 1) := by decide +kernel
theorem dX10_feed_57 : decode cX10_feed 57 = .ok (.getfield 10, 3) := by decide +kernel
theorem dX10_feed_60 : decode cX10_feed 60 = .ok (.getfield 63, 3) := by decide +kernel
theorem dX10_feed_63 : decode cX10_feed 63 = .ok (.ireturn, 1) := by decide +kernel
theorem dX10_end_0 : decode cX10_end 0 = .ok (.aload_n 0, 1) := by decide +kernel
theorem dX10_end_1 : decode cX10_end 1 = .ok (.getfield 10, 3) := by decide +kernel
theorem dX10_end_4 : decode cX10_end 4 = .ok (.iload_n 1, 1) := by decide +kernel
theorem dX10_end_5 : decode cX10_end 5 = .ok (.invokevirtual 67, 3) := by decide +kernel
theorem dX10_end_8 : decode cX10_end 8 = .ok (.ireturn, 1) := by decide +kernel
theorem dX10_rules_0 : decode cX10_rules 0 = .ok (.aload_n 0, 1) := by decide +kernel
theorem dX10_rules_1 : decode cX10_rules 1 = .ok (.getfield 28, 3) := by decide +kernel
theorem dX10_rules_4 : decode cX10_rules 4 = .ok (.invokevirtual 70, 3) := by decide +kernel
theorem dX10_rules_7 : decode cX10_rules 7 = .ok (.istore_n 1, 1) := by decide +kernel
theorem dX10_rules_8 : decode cX10_rules 8 = .ok (.aload_n 0, 1) := by decide +kernel
theorem dX10_rules_9 : decode cX10_rules 9 = .ok (.getfield 10, 3) := by decide +kernel
theorem dX10_rules_12 : decode cX10_rules 12 = .ok (.iconst 0, 1) := by decide +kernel
theorem dX10_rules_13 : decode cX10_rules 13 = .ok (.invokevirtual 67, 3) := by decide +kernel
theorem dX10_rules_16 : decode cX10_rules 16 = .ok (.pop, 1) := by decide +kernel
theorem dX10_rules_17 : decode cX10_rules 17 = .ok (.iload_n 1, 1) := by decide +kernel
theorem dX10_rules_18 : decode cX10_rules 18 = .ok (.ireturn, 1) := by decide +kernel
theorem dX10_fault_0 : decode cX10_fault 0 = .ok (.iload_n 1, 1) := by decide +kernel
theorem dX10_fault_1 : decode cX10_fault 1 = .ok (.lookupswitch 43 #[(0, 27), (1, 35)], 27) := by decide +kernel
theorem dX10_fault_28 : decode cX10_fault 28 = .ok (.aload_n 0, 1) := by decide +kernel
theorem dX10_fault_29 : decode cX10_fault 29 = .ok (.getfield 28, 3) := by decide +kernel
theorem dX10_fault_32 : decode cX10_fault 32 = .ok (.getfield 74, 3) := by decide +kernel
theorem dX10_fault_35 : decode cX10_fault 35 = .ok (.ireturn, 1) := by decide +kernel
theorem dX10_fault_36 : decode cX10_fault 36 = .ok (.aload_n 0, 1) := by decide +kernel
theorem dX10_fault_37 : decode cX10_fault 37 = .ok (.getfield 28, 3) := by decide +kernel
theorem dX10_fault_40 : decode cX10_fault 40 = .ok (.getfield 77, 3) := by decide +kernel
theorem dX10_fault_43 : decode cX10_fault 43 = .ok (.ireturn, 1) := by decide +kernel
theorem dX10_fault_44 : decode cX10_fault 44 = .ok (.iconst (-1), 1) := by decide +kernel
theorem dX10_fault_45 : decode cX10_fault 45 = .ok (.ireturn, 1) := by decide +kernel
theorem dX10_rule_0 : decode cX10_rule 0 = .ok (.iload_n 1, 1) := by decide +kernel
theorem dX10_rule_1 : decode cX10_rule 1 = .ok (.iconst 0, 1) := by decide +kernel
theorem dX10_rule_2 : decode cX10_rule 2 = .ok (.bipush 7, 2) := by decide +kernel
theorem dX10_rule_4 : decode cX10_rule 4 = .ok (.invokestatic 80, 3) := by decide +kernel
theorem dX10_rule_7 : decode cX10_rule 7 = .ok (.ifCond .eq 13, 3) := by decide +kernel
theorem dX10_rule_10 : decode cX10_rule 10 = .ok (.iload_n 2, 1) := by decide +kernel
theorem dX10_rule_11 : decode cX10_rule 11 = .ok (.iconst 0, 1) := by decide +kernel
theorem dX10_rule_12 : decode cX10_rule 12 = .ok (.bipush 60, 2) := by decide +kernel
theorem dX10_rule_14 : decode cX10_rule 14 = .ok (.invokestatic 80, 3) := by decide +kernel
theorem dX10_rule_17 : decode cX10_rule 17 = .ok (.ifCond .ne 5, 3) := by decide +kernel
theorem dX10_rule_20 : decode cX10_rule 20 = .ok (.iconst (-1), 1) := by decide +kernel
theorem dX10_rule_21 : decode cX10_rule 21 = .ok (.ireturn, 1) := by decide +kernel
theorem dX10_rule_22 : decode cX10_rule 22 = .ok (.aload_n 0, 1) := by decide +kernel
theorem dX10_rule_23 : decode cX10_rule 23 = .ok (.getfield 19, 3) := by decide +kernel
theorem dX10_rule_26 : decode cX10_rule 26 = .ok (.iload_n 1, 1) := by decide +kernel
theorem dX10_rule_27 : decode cX10_rule 27 = .ok (.iload_n 2, 1) := by decide +kernel
theorem dX10_rule_28 : decode cX10_rule 28 = .ok (.invokevirtual 84, 3) := by decide +kernel
theorem dX10_rule_31 : decode cX10_rule 31 = .ok (.ireturn, 1) := by decide +kernel
theorem dX10_lag_0 : decode cX10_lag 0 = .ok (.aload_n 0, 1) := by decide +kernel
theorem dX10_lag_1 : decode cX10_lag 1 = .ok (.getfield 37, 3) := by decide +kernel
theorem dX10_lag_4 : decode cX10_lag 4 = .ok (.iload_n 1, 1) := by decide +kernel
theorem dX10_lag_5 : decode cX10_lag 5 = .ok (.iload_n 2, 1) := by decide +kernel
theorem dX10_lag_6 : decode cX10_lag 6 = .ok (.invokevirtual 88, 3) := by decide +kernel
theorem dX10_lag_9 : decode cX10_lag 9 = .ok (.ireturn, 1) := by decide +kernel
theorem dX10_join_0 : decode cX10_join 0 = .ok (.aload_n 0, 1) := by decide +kernel
theorem dX10_join_1 : decode cX10_join 1 = .ok (.getfield 37, 3) := by decide +kernel
theorem dX10_join_4 : decode cX10_join 4 = .ok (.iload_n 1, 1) := by decide +kernel
theorem dX10_join_5 : decode cX10_join 5 = .ok (.iload_n 2, 1) := by decide +kernel
theorem dX10_join_6 : decode cX10_join 6 = .ok (.invokevirtual 92, 3) := by decide +kernel
theorem dX10_join_9 : decode cX10_join 9 = .ok (.ireturn, 1) := by decide +kernel
theorem dX10_move_0 : decode cX10_move 0 = .ok (.aload_n 0, 1) := by decide +kernel
theorem dX10_move_1 : decode cX10_move 1 = .ok (.getfield 37, 3) := by decide +kernel
theorem dX10_move_4 : decode cX10_move 4 = .ok (.aload_n 0, 1) := by decide +kernel
theorem dX10_move_5 : decode cX10_move 5 = .ok (.getfield 37, 3) := by decide +kernel
theorem dX10_move_8 : decode cX10_move 8 = .ok (.iload_n 1, 1) := by decide +kernel
theorem dX10_move_9 : decode cX10_move 9 = .ok (.invokevirtual 95, 3) := by decide +kernel
theorem dX10_move_12 : decode cX10_move 12 = .ok (.iload_n 2, 1) := by decide +kernel
theorem dX10_move_13 : decode cX10_move 13 = .ok (.invokevirtual 99, 3) := by decide +kernel
theorem dX10_move_16 : decode cX10_move 16 = .ok (.ireturn, 1) := by decide +kernel
theorem dX10_pay_0 : decode cX10_pay 0 = .ok (.aload_n 0, 1) := by decide +kernel
theorem dX10_pay_1 : decode cX10_pay 1 = .ok (.getfield 37, 3) := by decide +kernel
theorem dX10_pay_4 : decode cX10_pay 4 = .ok (.aload_n 0, 1) := by decide +kernel
theorem dX10_pay_5 : decode cX10_pay 5 = .ok (.getfield 37, 3) := by decide +kernel
theorem dX10_pay_8 : decode cX10_pay 8 = .ok (.iload_n 1, 1) := by decide +kernel
theorem dX10_pay_9 : decode cX10_pay 9 = .ok (.invokevirtual 95, 3) := by decide +kernel
theorem dX10_pay_12 : decode cX10_pay 12 = .ok (.iload_n 2, 1) := by decide +kernel
theorem dX10_pay_13 : decode cX10_pay 13 = .ok (.invokevirtual 103, 3) := by decide +kernel
theorem dX10_pay_16 : decode cX10_pay 16 = .ok (.lreturn, 1) := by decide +kernel
theorem dX10_leave_0 : decode cX10_leave 0 = .ok (.aload_n 0, 1) := by decide +kernel
theorem dX10_leave_1 : decode cX10_leave 1 = .ok (.getfield 37, 3) := by decide +kernel
theorem dX10_leave_4 : decode cX10_leave 4 = .ok (.aload_n 0, 1) := by decide +kernel
theorem dX10_leave_5 : decode cX10_leave 5 = .ok (.getfield 37, 3) := by decide +kernel
theorem dX10_leave_8 : decode cX10_leave 8 = .ok (.iload_n 1, 1) := by decide +kernel
theorem dX10_leave_9 : decode cX10_leave 9 = .ok (.invokevirtual 95, 3) := by decide +kernel
theorem dX10_leave_12 : decode cX10_leave 12 = .ok (.invokevirtual 107, 3) := by decide +kernel
theorem dX10_leave_15 : decode cX10_leave 15 = .ok (.lreturn, 1) := by decide +kernel
theorem dX10_member_0 : decode cX10_member 0 = .ok (.aload_n 0, 1) := by decide +kernel
theorem dX10_member_1 : decode cX10_member 1 = .ok (.getfield 37, 3) := by decide +kernel
theorem dX10_member_4 : decode cX10_member 4 = .ok (.iload_n 1, 1) := by decide +kernel
theorem dX10_member_5 : decode cX10_member 5 = .ok (.invokevirtual 95, 3) := by decide +kernel
theorem dX10_member_8 : decode cX10_member 8 = .ok (.astore_n 3, 1) := by decide +kernel
theorem dX10_member_9 : decode cX10_member 9 = .ok (.aload_n 3, 1) := by decide +kernel
theorem dX10_member_10 : decode cX10_member 10 = .ok (.ifnonnull 13, 3) := by decide +kernel
theorem dX10_member_13 : decode cX10_member 13 = .ok (.new 111, 3) := by decide +kernel
theorem dX10_member_16 : decode cX10_member 16 = .ok (.dup, 1) := by decide +kernel
theorem dX10_member_17 : decode cX10_member 17 = .ok (.ldc 113, 2) := by decide +kernel
theorem dX10_member_19 : decode cX10_member 19 = .ok (.invokespecial 115, 3) := by decide +kernel
theorem dX10_member_22 : decode cX10_member 22 = .ok (.athrow, 1) := by decide +kernel
theorem dX10_member_23 : decode cX10_member 23 = .ok (.iload_n 2, 1) := by decide +kernel
theorem dX10_member_24 : decode cX10_member 24 = .ok (.tableswitch 119 0 8 #[52, 58, 64, 70, 76, 82, 87, 93, 106], 52) := by decide +kernel
theorem dX10_member_76 : decode cX10_member 76 = .ok (.aload_n 3, 1) := by decide +kernel
theorem dX10_member_77 : decode cX10_member 77 = .ok (.getfield 118, 3) := by decide +kernel
theorem dX10_member_80 : decode cX10_member 80 = .ok (.i2l, 1) := by decide +kernel
theorem dX10_member_81 : decode cX10_member 81 = .ok (.lreturn, 1) := by decide +kernel
theorem dX10_member_82 : decode cX10_member 82 = .ok (.aload_n 3, 1) := by decide +kernel
theorem dX10_member_83 : decode cX10_member 83 = .ok (.getfield 123, 3) := by decide +kernel
theorem dX10_member_86 : decode cX10_member 86 = .ok (.i2l, 1) := by decide +kernel
theorem dX10_member_87 : decode cX10_member 87 = .ok (.lreturn, 1) := by decide +kernel
theorem dX10_member_88 : decode cX10_member 88 = .ok (.aload_n 3, 1) := by decide +kernel
theorem dX10_member_89 : decode cX10_member 89 = .ok (.getfield 126, 3) := by decide +kernel
theorem dX10_member_92 : decode cX10_member 92 = .ok (.i2l, 1) := by decide +kernel
theorem dX10_member_93 : decode cX10_member 93 = .ok (.lreturn, 1) := by decide +kernel
theorem dX10_member_94 : decode cX10_member 94 = .ok (.aload_n 3, 1) := by decide +kernel
theorem dX10_member_95 : decode cX10_member 95 = .ok (.getfield 129, 3) := by decide +kernel
theorem dX10_member_98 : decode cX10_member 98 = .ok (.i2l, 1) := by decide +kernel
theorem dX10_member_99 : decode cX10_member 99 = .ok (.lreturn, 1) := by decide +kernel
theorem dX10_member_100 : decode cX10_member 100 = .ok (.aload_n 3, 1) := by decide +kernel
theorem dX10_member_101 : decode cX10_member 101 = .ok (.getfield 132, 3) := by decide +kernel
theorem dX10_member_104 : decode cX10_member 104 = .ok (.i2l, 1) := by decide +kernel
theorem dX10_member_105 : decode cX10_member 105 = .ok (.lreturn, 1) := by decide +kernel
theorem dX10_member_106 : decode cX10_member 106 = .ok (.aload_n 3, 1) := by decide +kernel
theorem dX10_member_107 : decode cX10_member 107 = .ok (.getfield 135, 3) := by decide +kernel
theorem dX10_member_110 : decode cX10_member 110 = .ok (.lreturn, 1) := by decide +kernel
theorem dX10_member_111 : decode cX10_member 111 = .ok (.aload_n 3, 1) := by decide +kernel
theorem dX10_member_112 : decode cX10_member 112 = .ok (.getfield 139, 3) := by decide +kernel
theorem dX10_member_115 : decode cX10_member 115 = .ok (.i2l, 1) := by decide +kernel
theorem dX10_member_116 : decode cX10_member 116 = .ok (.lreturn, 1) := by decide +kernel
theorem dX10_member_117 : decode cX10_member 117 = .ok (.aload_n 3, 1) := by decide +kernel
theorem dX10_member_118 : decode cX10_member 118 = .ok (.getfield 142, 3) := by decide +kernel
theorem dX10_member_121 : decode cX10_member 121 = .ok (.ifCond .eq 7, 3) := by decide +kernel
theorem dX10_member_124 : decode cX10_member 124 = .ok (.lconst 1, 1) := by decide +kernel
theorem dX10_member_125 : decode cX10_member 125 = .ok (.goto 4, 3) := by decide +kernel
theorem dX10_member_128 : decode cX10_member 128 = .ok (.lconst 0, 1) := by decide +kernel
theorem dX10_member_129 : decode cX10_member 129 = .ok (.lreturn, 1) := by decide +kernel
theorem dX10_member_130 : decode cX10_member 130 = .ok (.aload_n 3, 1) := by decide +kernel
theorem dX10_member_131 : decode cX10_member 131 = .ok (.getfield 146, 3) := by decide +kernel
theorem dX10_member_134 : decode cX10_member 134 = .ok (.ifCond .eq 7, 3) := by decide +kernel
theorem dX10_member_137 : decode cX10_member 137 = .ok (.lconst 1, 1) := by decide +kernel
theorem dX10_member_138 : decode cX10_member 138 = .ok (.goto 4, 3) := by decide +kernel
theorem dX10_member_141 : decode cX10_member 141 = .ok (.lconst 0, 1) := by decide +kernel
theorem dX10_member_142 : decode cX10_member 142 = .ok (.lreturn, 1) := by decide +kernel
theorem dX10_member_143 : decode cX10_member 143 = .ok (.new 111, 3) := by decide +kernel
theorem dX10_member_146 : decode cX10_member 146 = .ok (.dup, 1) := by decide +kernel
theorem dX10_member_147 : decode cX10_member 147 = .ok (.ldc 149, 2) := by decide +kernel
theorem dX10_member_149 : decode cX10_member 149 = .ok (.invokespecial 115, 3) := by decide +kernel
theorem dX10_member_152 : decode cX10_member 152 = .ok (.athrow, 1) := by decide +kernel
theorem dX10_choice_0 : decode cX10_choice 0 = .ok (.aload_n 0, 1) := by decide +kernel
theorem dX10_choice_1 : decode cX10_choice 1 = .ok (.getfield 37, 3) := by decide +kernel
theorem dX10_choice_4 : decode cX10_choice 4 = .ok (.iload_n 1, 1) := by decide +kernel
theorem dX10_choice_5 : decode cX10_choice 5 = .ok (.iload_n 2, 1) := by decide +kernel
theorem dX10_choice_6 : decode cX10_choice 6 = .ok (.invokevirtual 151, 3) := by decide +kernel
theorem dX10_choice_9 : decode cX10_choice 9 = .ok (.ireturn, 1) := by decide +kernel
theorem dX10_refuse_0 : decode cX10_refuse 0 = .ok (.aload_n 0, 1) := by decide +kernel
theorem dX10_refuse_1 : decode cX10_refuse 1 = .ok (.getfield 37, 3) := by decide +kernel
theorem dX10_refuse_4 : decode cX10_refuse 4 = .ok (.aload_n 0, 1) := by decide +kernel
theorem dX10_refuse_5 : decode cX10_refuse 5 = .ok (.getfield 37, 3) := by decide +kernel
theorem dX10_refuse_8 : decode cX10_refuse 8 = .ok (.iload_n 1, 1) := by decide +kernel
theorem dX10_refuse_9 : decode cX10_refuse 9 = .ok (.invokevirtual 95, 3) := by decide +kernel
theorem dX10_refuse_12 : decode cX10_refuse 12 = .ok (.iload_n 2, 1) := by decide +kernel
theorem dX10_refuse_13 : decode cX10_refuse 13 = .ok (.invokevirtual 154, 3) := by decide +kernel
theorem dX10_refuse_16 : decode cX10_refuse 16 = .ok (.ireturn, 1) := by decide +kernel
theorem dX10_close_0 : decode cX10_close 0 = .ok (.aload_n 0, 1) := by decide +kernel
theorem dX10_close_1 : decode cX10_close 1 = .ok (.getfield 37, 3) := by decide +kernel
theorem dX10_close_4 : decode cX10_close 4 = .ok (.invokevirtual 158, 3) := by decide +kernel
theorem dX10_close_7 : decode cX10_close 7 = .ok (.ireturn, 1) := by decide +kernel
theorem dX10_clear_0 : decode cX10_clear 0 = .ok (.aload_n 0, 1) := by decide +kernel
theorem dX10_clear_1 : decode cX10_clear 1 = .ok (.getfield 37, 3) := by decide +kernel
theorem dX10_clear_4 : decode cX10_clear 4 = .ok (.iload_n 1, 1) := by decide +kernel
theorem dX10_clear_5 : decode cX10_clear 5 = .ok (.invokevirtual 161, 3) := by decide +kernel
theorem dX10_clear_8 : decode cX10_clear 8 = .ok (.astore 4, 2) := by decide +kernel
theorem dX10_clear_10 : decode cX10_clear 10 = .ok (.aload 4, 2) := by decide +kernel
theorem dX10_clear_12 : decode cX10_clear 12 = .ok (.ifnonnull 5, 3) := by decide +kernel
theorem dX10_clear_15 : decode cX10_clear 15 = .ok (.iconst (-1), 1) := by decide +kernel
theorem dX10_clear_16 : decode cX10_clear 16 = .ok (.ireturn, 1) := by decide +kernel
theorem dX10_clear_17 : decode cX10_clear 17 = .ok (.aload 4, 2) := by decide +kernel
theorem dX10_clear_19 : decode cX10_clear 19 = .ok (.iload_n 2, 1) := by decide +kernel
theorem dX10_clear_20 : decode cX10_clear 20 = .ok (.iload_n 3, 1) := by decide +kernel
theorem dX10_clear_21 : decode cX10_clear 21 = .ok (.invokevirtual 165, 3) := by decide +kernel
theorem dX10_clear_24 : decode cX10_clear 24 = .ok (.ireturn, 1) := by decide +kernel
theorem dX10_book_0 : decode cX10_book 0 = .ok (.aload_n 0, 1) := by decide +kernel
theorem dX10_book_1 : decode cX10_book 1 = .ok (.getfield 37, 3) := by decide +kernel
theorem dX10_book_4 : decode cX10_book 4 = .ok (.iload_n 1, 1) := by decide +kernel
theorem dX10_book_5 : decode cX10_book 5 = .ok (.invokevirtual 161, 3) := by decide +kernel
theorem dX10_book_8 : decode cX10_book 8 = .ok (.astore_n 3, 1) := by decide +kernel
theorem dX10_book_9 : decode cX10_book 9 = .ok (.aload_n 3, 1) := by decide +kernel
theorem dX10_book_10 : decode cX10_book 10 = .ok (.ifnonnull 5, 3) := by decide +kernel
theorem dX10_book_13 : decode cX10_book 13 = .ok (.iconst (-1), 1) := by decide +kernel
theorem dX10_book_14 : decode cX10_book 14 = .ok (.ireturn, 1) := by decide +kernel
theorem dX10_book_15 : decode cX10_book 15 = .ok (.iload_n 2, 1) := by decide +kernel
theorem dX10_book_16 : decode cX10_book 16 = .ok (.tableswitch 88 0 7 #[48, 53, 58, 63, 68, 73, 78, 83], 48) := by decide +kernel
theorem dX10_book_64 : decode cX10_book 64 = .ok (.aload_n 3, 1) := by decide +kernel
theorem dX10_book_65 : decode cX10_book 65 = .ok (.getfield 170, 3) := by decide +kernel
theorem dX10_book_68 : decode cX10_book 68 = .ok (.ireturn, 1) := by decide +kernel
theorem dX10_book_69 : decode cX10_book 69 = .ok (.aload_n 3, 1) := by decide +kernel
theorem dX10_book_70 : decode cX10_book 70 = .ok (.getfield 173, 3) := by decide +kernel
theorem dX10_book_73 : decode cX10_book 73 = .ok (.ireturn, 1) := by decide +kernel
theorem dX10_book_74 : decode cX10_book 74 = .ok (.aload_n 3, 1) := by decide +kernel
theorem dX10_book_75 : decode cX10_book 75 = .ok (.getfield 176, 3) := by decide +kernel
theorem dX10_book_78 : decode cX10_book 78 = .ok (.ireturn, 1) := by decide +kernel
theorem dX10_book_79 : decode cX10_book 79 = .ok (.aload_n 3, 1) := by decide +kernel
theorem dX10_book_80 : decode cX10_book 80 = .ok (.getfield 179, 3) := by decide +kernel
theorem dX10_book_83 : decode cX10_book 83 = .ok (.ireturn, 1) := by decide +kernel
theorem dX10_book_84 : decode cX10_book 84 = .ok (.aload_n 3, 1) := by decide +kernel
theorem dX10_book_85 : decode cX10_book 85 = .ok (.getfield 182, 3) := by decide +kernel
theorem dX10_book_88 : decode cX10_book 88 = .ok (.ireturn, 1) := by decide +kernel
theorem dX10_book_89 : decode cX10_book 89 = .ok (.aload_n 3, 1) := by decide +kernel
theorem dX10_book_90 : decode cX10_book 90 = .ok (.getfield 185, 3) := by decide +kernel
theorem dX10_book_93 : decode cX10_book 93 = .ok (.ireturn, 1) := by decide +kernel
theorem dX10_book_94 : decode cX10_book 94 = .ok (.aload_n 3, 1) := by decide +kernel
theorem dX10_book_95 : decode cX10_book 95 = .ok (.getfield 188, 3) := by decide +kernel
theorem dX10_book_98 : decode cX10_book 98 = .ok (.ireturn, 1) := by decide +kernel
theorem dX10_book_99 : decode cX10_book 99 = .ok (.aload_n 3, 1) := by decide +kernel
theorem dX10_book_100 : decode cX10_book 100 = .ok (.getfield 191, 3) := by decide +kernel
theorem dX10_book_103 : decode cX10_book 103 = .ok (.ireturn, 1) := by decide +kernel
theorem dX10_book_104 : decode cX10_book 104 = .ok (.iconst (-1), 1) := by decide +kernel
theorem dX10_book_105 : decode cX10_book 105 = .ok (.ireturn, 1) := by decide +kernel
theorem dX10_count_0 : decode cX10_count 0 = .ok (.iload_n 1, 1) := by decide +kernel
theorem dX10_count_1 : decode cX10_count 1 = .ok (.tableswitch 120 0 7 #[47, 55, 66, 75, 84, 93, 104, 112], 47) := by decide +kernel
theorem dX10_count_48 : decode cX10_count 48 = .ok (.aload_n 0, 1) := by decide +kernel
theorem dX10_count_49 : decode cX10_count 49 = .ok (.getfield 37, 3) := by decide +kernel
theorem dX10_count_52 : decode cX10_count 52 = .ok (.getfield 194, 3) := by decide +kernel
theorem dX10_count_55 : decode cX10_count 55 = .ok (.ireturn, 1) := by decide +kernel
theorem dX10_count_56 : decode cX10_count 56 = .ok (.aload_n 0, 1) := by decide +kernel
theorem dX10_count_57 : decode cX10_count 57 = .ok (.getfield 37, 3) := by decide +kernel
theorem dX10_count_60 : decode cX10_count 60 = .ok (.getfield 197, 3) := by decide +kernel
theorem dX10_count_63 : decode cX10_count 63 = .ok (.invokevirtual 201, 3) := by decide +kernel
theorem dX10_count_66 : decode cX10_count 66 = .ok (.ireturn, 1) := by decide +kernel
theorem dX10_count_67 : decode cX10_count 67 = .ok (.aload_n 0, 1) := by decide +kernel
theorem dX10_count_68 : decode cX10_count 68 = .ok (.getfield 37, 3) := by decide +kernel
theorem dX10_count_71 : decode cX10_count 71 = .ok (.iconst 0, 1) := by decide +kernel
theorem dX10_count_72 : decode cX10_count 72 = .ok (.invokevirtual 206, 3) := by decide +kernel
theorem dX10_count_75 : decode cX10_count 75 = .ok (.ireturn, 1) := by decide +kernel
theorem dX10_count_76 : decode cX10_count 76 = .ok (.aload_n 0, 1) := by decide +kernel
theorem dX10_count_77 : decode cX10_count 77 = .ok (.getfield 37, 3) := by decide +kernel
theorem dX10_count_80 : decode cX10_count 80 = .ok (.iconst 1, 1) := by decide +kernel
theorem dX10_count_81 : decode cX10_count 81 = .ok (.invokevirtual 206, 3) := by decide +kernel
theorem dX10_count_84 : decode cX10_count 84 = .ok (.ireturn, 1) := by decide +kernel
theorem dX10_count_85 : decode cX10_count 85 = .ok (.aload_n 0, 1) := by decide +kernel
theorem dX10_count_86 : decode cX10_count 86 = .ok (.getfield 37, 3) := by decide +kernel
theorem dX10_count_89 : decode cX10_count 89 = .ok (.iconst 2, 1) := by decide +kernel
theorem dX10_count_90 : decode cX10_count 90 = .ok (.invokevirtual 206, 3) := by decide +kernel
theorem dX10_count_93 : decode cX10_count 93 = .ok (.ireturn, 1) := by decide +kernel
theorem dX10_count_94 : decode cX10_count 94 = .ok (.aload_n 0, 1) := by decide +kernel
theorem dX10_count_95 : decode cX10_count 95 = .ok (.getfield 37, 3) := by decide +kernel
theorem dX10_count_98 : decode cX10_count 98 = .ok (.getfield 210, 3) := by decide +kernel
theorem dX10_count_101 : decode cX10_count 101 = .ok (.invokevirtual 214, 3) := by decide +kernel
theorem dX10_count_104 : decode cX10_count 104 = .ok (.ireturn, 1) := by decide +kernel
theorem dX10_count_105 : decode cX10_count 105 = .ok (.aload_n 0, 1) := by decide +kernel
theorem dX10_count_106 : decode cX10_count 106 = .ok (.getfield 19, 3) := by decide +kernel
theorem dX10_count_109 : decode cX10_count 109 = .ok (.getfield 217, 3) := by decide +kernel
theorem dX10_count_112 : decode cX10_count 112 = .ok (.ireturn, 1) := by decide +kernel
theorem dX10_count_113 : decode cX10_count 113 = .ok (.aload_n 0, 1) := by decide +kernel
theorem dX10_count_114 : decode cX10_count 114 = .ok (.getfield 10, 3) := by decide +kernel
theorem dX10_count_117 : decode cX10_count 117 = .ok (.getfield 63, 3) := by decide +kernel
theorem dX10_count_120 : decode cX10_count 120 = .ok (.ireturn, 1) := by decide +kernel
theorem dX10_count_121 : decode cX10_count 121 = .ok (.iconst (-1), 1) := by decide +kernel
theorem dX10_count_122 : decode cX10_count 122 = .ok (.ireturn, 1) := by decide +kernel
theorem dX10_entry_0 : decode cX10_entry 0 = .ok (.aload_n 0, 1) := by decide +kernel
theorem dX10_entry_1 : decode cX10_entry 1 = .ok (.getfield 37, 3) := by decide +kernel
theorem dX10_entry_4 : decode cX10_entry 4 = .ok (.getfield 210, 3) := by decide +kernel
theorem dX10_entry_7 : decode cX10_entry 7 = .ok (.iload_n 1, 1) := by decide +kernel
theorem dX10_entry_8 : decode cX10_entry 8 = .ok (.invokevirtual 220, 3) := by decide +kernel
theorem dX10_entry_11 : decode cX10_entry 11 = .ok (.astore_n 3, 1) := by decide +kernel
theorem dX10_entry_12 : decode cX10_entry 12 = .ok (.aload_n 3, 1) := by decide +kernel
theorem dX10_entry_13 : decode cX10_entry 13 = .ok (.ifnonnull 13, 3) := by decide +kernel
theorem dX10_entry_16 : decode cX10_entry 16 = .ok (.new 111, 3) := by decide +kernel
theorem dX10_entry_19 : decode cX10_entry 19 = .ok (.dup, 1) := by decide +kernel
theorem dX10_entry_20 : decode cX10_entry 20 = .ok (.ldc 224, 2) := by decide +kernel
theorem dX10_entry_22 : decode cX10_entry 22 = .ok (.invokespecial 115, 3) := by decide +kernel
theorem dX10_entry_25 : decode cX10_entry 25 = .ok (.athrow, 1) := by decide +kernel
theorem dX10_entry_26 : decode cX10_entry 26 = .ok (.iload_n 2, 1) := by decide +kernel
theorem dX10_entry_27 : decode cX10_entry 27 = .ok (.tableswitch 65 0 4 #[33, 42, 48, 54, 59], 33) := by decide +kernel
theorem dX10_entry_60 : decode cX10_entry 60 = .ok (.aload_n 3, 1) := by decide +kernel
theorem dX10_entry_61 : decode cX10_entry 61 = .ok (.getfield 226, 3) := by decide +kernel
theorem dX10_entry_64 : decode cX10_entry 64 = .ok (.getfield 232, 3) := by decide +kernel
theorem dX10_entry_67 : decode cX10_entry 67 = .ok (.i2l, 1) := by decide +kernel
theorem dX10_entry_68 : decode cX10_entry 68 = .ok (.lreturn, 1) := by decide +kernel
theorem dX10_entry_69 : decode cX10_entry 69 = .ok (.aload_n 3, 1) := by decide +kernel
theorem dX10_entry_70 : decode cX10_entry 70 = .ok (.getfield 235, 3) := by decide +kernel
theorem dX10_entry_73 : decode cX10_entry 73 = .ok (.i2l, 1) := by decide +kernel
theorem dX10_entry_74 : decode cX10_entry 74 = .ok (.lreturn, 1) := by decide +kernel
theorem dX10_entry_75 : decode cX10_entry 75 = .ok (.aload_n 3, 1) := by decide +kernel
theorem dX10_entry_76 : decode cX10_entry 76 = .ok (.getfield 236, 3) := by decide +kernel
theorem dX10_entry_79 : decode cX10_entry 79 = .ok (.i2l, 1) := by decide +kernel
theorem dX10_entry_80 : decode cX10_entry 80 = .ok (.lreturn, 1) := by decide +kernel
theorem dX10_entry_81 : decode cX10_entry 81 = .ok (.aload_n 3, 1) := by decide +kernel
theorem dX10_entry_82 : decode cX10_entry 82 = .ok (.getfield 239, 3) := by decide +kernel
theorem dX10_entry_85 : decode cX10_entry 85 = .ok (.lreturn, 1) := by decide +kernel
theorem dX10_entry_86 : decode cX10_entry 86 = .ok (.aload_n 3, 1) := by decide +kernel
theorem dX10_entry_87 : decode cX10_entry 87 = .ok (.getfield 242, 3) := by decide +kernel
theorem dX10_entry_90 : decode cX10_entry 90 = .ok (.i2l, 1) := by decide +kernel
theorem dX10_entry_91 : decode cX10_entry 91 = .ok (.lreturn, 1) := by decide +kernel
theorem dX10_entry_92 : decode cX10_entry 92 = .ok (.new 111, 3) := by decide +kernel
theorem dX10_entry_95 : decode cX10_entry 95 = .ok (.dup, 1) := by decide +kernel
theorem dX10_entry_96 : decode cX10_entry 96 = .ok (.ldc 245, 2) := by decide +kernel
theorem dX10_entry_98 : decode cX10_entry 98 = .ok (.invokespecial 115, 3) := by decide +kernel
theorem dX10_entry_101 : decode cX10_entry 101 = .ok (.athrow, 1) := by decide +kernel
theorem dX10_strike_0 : decode cX10_strike 0 = .ok (.aload_n 0, 1) := by decide +kernel
theorem dX10_strike_1 : decode cX10_strike 1 = .ok (.getfield 37, 3) := by decide +kernel
theorem dX10_strike_4 : decode cX10_strike 4 = .ok (.getfield 210, 3) := by decide +kernel
theorem dX10_strike_7 : decode cX10_strike 7 = .ok (.iload_n 1, 1) := by decide +kernel
theorem dX10_strike_8 : decode cX10_strike 8 = .ok (.invokevirtual 220, 3) := by decide +kernel
theorem dX10_strike_11 : decode cX10_strike 11 = .ok (.astore_n 2, 1) := by decide +kernel
theorem dX10_strike_12 : decode cX10_strike 12 = .ok (.aload_n 2, 1) := by decide +kernel
theorem dX10_strike_13 : decode cX10_strike 13 = .ok (.ifnull 21, 3) := by decide +kernel
theorem dX10_strike_16 : decode cX10_strike 16 = .ok (.aload_n 2, 1) := by decide +kernel
theorem dX10_strike_17 : decode cX10_strike 17 = .ok (.aload_n 0, 1) := by decide +kernel
theorem dX10_strike_18 : decode cX10_strike 18 = .ok (.getfield 37, 3) := by decide +kernel
theorem dX10_strike_21 : decode cX10_strike 21 = .ok (.getfield 194, 3) := by decide +kernel
theorem dX10_strike_24 : decode cX10_strike 24 = .ok (.invokevirtual 247, 3) := by decide +kernel
theorem dX10_strike_27 : decode cX10_strike 27 = .ok (.ifCond .eq 7, 3) := by decide +kernel
theorem dX10_strike_30 : decode cX10_strike 30 = .ok (.iconst 1, 1) := by decide +kernel
theorem dX10_strike_31 : decode cX10_strike 31 = .ok (.goto 4, 3) := by decide +kernel
theorem dX10_strike_34 : decode cX10_strike 34 = .ok (.iconst 0, 1) := by decide +kernel
theorem dX10_strike_35 : decode cX10_strike 35 = .ok (.ireturn, 1) := by decide +kernel
theorem dX10_balance_0 : decode cX10_balance 0 = .ok (.aload_n 0, 1) := by decide +kernel
theorem dX10_balance_1 : decode cX10_balance 1 = .ok (.getfield 37, 3) := by decide +kernel
theorem dX10_balance_4 : decode cX10_balance 4 = .ok (.iload_n 1, 1) := by decide +kernel
theorem dX10_balance_5 : decode cX10_balance 5 = .ok (.invokevirtual 95, 3) := by decide +kernel
theorem dX10_balance_8 : decode cX10_balance 8 = .ok (.astore 4, 2) := by decide +kernel
theorem dX10_balance_10 : decode cX10_balance 10 = .ok (.aload 4, 2) := by decide +kernel
theorem dX10_balance_12 : decode cX10_balance 12 = .ok (.ifnonnull 13, 3) := by decide +kernel
theorem dX10_balance_15 : decode cX10_balance 15 = .ok (.new 111, 3) := by decide +kernel
theorem dX10_balance_18 : decode cX10_balance 18 = .ok (.dup, 1) := by decide +kernel
theorem dX10_balance_19 : decode cX10_balance 19 = .ok (.ldc 113, 2) := by decide +kernel
theorem dX10_balance_21 : decode cX10_balance 21 = .ok (.invokespecial 115, 3) := by decide +kernel
theorem dX10_balance_24 : decode cX10_balance 24 = .ok (.athrow, 1) := by decide +kernel
theorem dX10_balance_25 : decode cX10_balance 25 = .ok (.iload_n 2, 1) := by decide +kernel
theorem dX10_balance_26 : decode cX10_balance 26 = .ok (.iconst 0, 1) := by decide +kernel
theorem dX10_balance_27 : decode cX10_balance 27 = .ok (.bipush 60, 2) := by decide +kernel
theorem dX10_balance_29 : decode cX10_balance 29 = .ok (.invokestatic 80, 3) := by decide +kernel
theorem dX10_balance_32 : decode cX10_balance 32 = .ok (.ifCond .eq 13, 3) := by decide +kernel
theorem dX10_balance_35 : decode cX10_balance 35 = .ok (.iload_n 3, 1) := by decide +kernel
theorem dX10_balance_36 : decode cX10_balance 36 = .ok (.iconst 0, 1) := by decide +kernel
theorem dX10_balance_37 : decode cX10_balance 37 = .ok (.bipush 60, 2) := by decide +kernel
theorem dX10_balance_39 : decode cX10_balance 39 = .ok (.invokestatic 80, 3) := by decide +kernel
theorem dX10_balance_42 : decode cX10_balance 42 = .ok (.ifCond .ne 13, 3) := by decide +kernel
theorem dX10_balance_45 : decode cX10_balance 45 = .ok (.new 111, 3) := by decide +kernel
theorem dX10_balance_48 : decode cX10_balance 48 = .ok (.dup, 1) := by decide +kernel
theorem dX10_balance_49 : decode cX10_balance 49 = .ok (.ldc 250, 2) := by decide +kernel
theorem dX10_balance_51 : decode cX10_balance 51 = .ok (.invokespecial 115, 3) := by decide +kernel
theorem dX10_balance_54 : decode cX10_balance 54 = .ok (.athrow, 1) := by decide +kernel
theorem dX10_balance_55 : decode cX10_balance 55 = .ok (.aload_n 0, 1) := by decide +kernel
theorem dX10_balance_56 : decode cX10_balance 56 = .ok (.getfield 37, 3) := by decide +kernel
theorem dX10_balance_59 : decode cX10_balance 59 = .ok (.getfield 210, 3) := by decide +kernel
theorem dX10_balance_62 : decode cX10_balance 62 = .ok (.aload 4, 2) := by decide +kernel
theorem dX10_balance_64 : decode cX10_balance 64 = .ok (.iload_n 2, 1) := by decide +kernel
theorem dX10_balance_65 : decode cX10_balance 65 = .ok (.iload_n 3, 1) := by decide +kernel
theorem dX10_balance_66 : decode cX10_balance 66 = .ok (.invokevirtual 252, 3) := by decide +kernel
theorem dX10_balance_69 : decode cX10_balance 69 = .ok (.lreturn, 1) := by decide +kernel
theorem dX10_chance_0 : decode cX10_chance 0 = .ok (.aload_n 0, 1) := by decide +kernel
theorem dX10_chance_1 : decode cX10_chance 1 = .ok (.getfield 44, 3) := by decide +kernel
theorem dX10_chance_4 : decode cX10_chance 4 = .ok (.iload_n 1, 1) := by decide +kernel
theorem dX10_chance_5 : decode cX10_chance 5 = .ok (.iload_n 2, 1) := by decide +kernel
theorem dX10_chance_6 : decode cX10_chance 6 = .ok (.invokevirtual 256, 3) := by decide +kernel
theorem dX10_chance_9 : decode cX10_chance 9 = .ok (.ireturn, 1) := by decide +kernel
theorem dX10_ways_0 : decode cX10_ways 0 = .ok (.iload_n 1, 1) := by decide +kernel
theorem dX10_ways_1 : decode cX10_ways 1 = .ok (.iload_n 2, 1) := by decide +kernel
theorem dX10_ways_2 : decode cX10_ways 2 = .ok (.invokestatic 259, 3) := by decide +kernel
theorem dX10_ways_5 : decode cX10_ways 5 = .ok (.ifCond .eq 12, 3) := by decide +kernel
theorem dX10_ways_8 : decode cX10_ways 8 = .ok (.iload_n 3, 1) := by decide +kernel
theorem dX10_ways_9 : decode cX10_ways 9 = .ok (.iconst 0, 1) := by decide +kernel
theorem dX10_ways_10 : decode cX10_ways 10 = .ok (.iload_n 1, 1) := by decide +kernel
theorem dX10_ways_11 : decode cX10_ways 11 = .ok (.invokestatic 80, 3) := by decide +kernel
theorem dX10_ways_14 : decode cX10_ways 14 = .ok (.ifCond .ne 7, 3) := by decide +kernel
theorem dX10_ways_17 : decode cX10_ways 17 = .ok (.ldc2_w 262, 3) := by decide +kernel
theorem dX10_ways_20 : decode cX10_ways 20 = .ok (.lreturn, 1) := by decide +kernel
theorem dX10_ways_21 : decode cX10_ways 21 = .ok (.aload_n 0, 1) := by decide +kernel
theorem dX10_ways_22 : decode cX10_ways 22 = .ok (.getfield 44, 3) := by decide +kernel
theorem dX10_ways_25 : decode cX10_ways 25 = .ok (.iload_n 1, 1) := by decide +kernel
theorem dX10_ways_26 : decode cX10_ways 26 = .ok (.iload_n 2, 1) := by decide +kernel
theorem dX10_ways_27 : decode cX10_ways 27 = .ok (.invokevirtual 264, 3) := by decide +kernel
theorem dX10_ways_30 : decode cX10_ways 30 = .ok (.aload_n 0, 1) := by decide +kernel
theorem dX10_ways_31 : decode cX10_ways 31 = .ok (.getfield 44, 3) := by decide +kernel
theorem dX10_ways_34 : decode cX10_ways 34 = .ok (.iload_n 3, 1) := by decide +kernel
theorem dX10_ways_35 : decode cX10_ways 35 = .ok (.invokevirtual 268, 3) := by decide +kernel
theorem dX10_ways_38 : decode cX10_ways 38 = .ok (.lreturn, 1) := by decide +kernel
theorem dX10_print_0 : decode cX10_print 0 = .ok (.iload_n 1, 1) := by decide +kernel
theorem dX10_print_1 : decode cX10_print 1 = .ok (.iload_n 2, 1) := by decide +kernel
theorem dX10_print_2 : decode cX10_print 2 = .ok (.invokestatic 259, 3) := by decide +kernel
theorem dX10_print_5 : decode cX10_print 5 = .ok (.ifCond .eq 18, 3) := by decide +kernel
theorem dX10_print_8 : decode cX10_print 8 = .ok (.iload_n 3, 1) := by decide +kernel
theorem dX10_print_9 : decode cX10_print 9 = .ok (.invokestatic 272, 3) := by decide +kernel
theorem dX10_print_12 : decode cX10_print 12 = .ok (.ifCond .eq 11, 3) := by decide +kernel
theorem dX10_print_15 : decode cX10_print 15 = .ok (.iload 4, 2) := by decide +kernel
theorem dX10_print_17 : decode cX10_print 17 = .ok (.invokestatic 272, 3) := by decide +kernel
theorem dX10_print_20 : decode cX10_print 20 = .ok (.ifCond .ne 5, 3) := by decide +kernel
theorem dX10_print_23 : decode cX10_print 23 = .ok (.iconst (-1), 1) := by decide +kernel
theorem dX10_print_24 : decode cX10_print 24 = .ok (.ireturn, 1) := by decide +kernel
theorem dX10_print_25 : decode cX10_print 25 = .ok (.aload_n 0, 1) := by decide +kernel
theorem dX10_print_26 : decode cX10_print 26 = .ok (.getfield 44, 3) := by decide +kernel
theorem dX10_print_29 : decode cX10_print 29 = .ok (.iload_n 1, 1) := by decide +kernel
theorem dX10_print_30 : decode cX10_print 30 = .ok (.iload_n 2, 1) := by decide +kernel
theorem dX10_print_31 : decode cX10_print 31 = .ok (.invokevirtual 264, 3) := by decide +kernel
theorem dX10_print_34 : decode cX10_print 34 = .ok (.aload_n 0, 1) := by decide +kernel
theorem dX10_print_35 : decode cX10_print 35 = .ok (.getfield 44, 3) := by decide +kernel
theorem dX10_print_38 : decode cX10_print 38 = .ok (.iload_n 1, 1) := by decide +kernel
theorem dX10_print_39 : decode cX10_print 39 = .ok (.iload_n 3, 1) := by decide +kernel
theorem dX10_print_40 : decode cX10_print 40 = .ok (.iload 4, 2) := by decide +kernel
theorem dX10_print_42 : decode cX10_print 42 = .ok (.invokevirtual 275, 3) := by decide +kernel
theorem dX10_print_45 : decode cX10_print 45 = .ok (.ireturn, 1) := by decide +kernel
theorem dX10_mark_0 : decode cX10_mark 0 = .ok (.aload_n 0, 1) := by decide +kernel
theorem dX10_mark_1 : decode cX10_mark 1 = .ok (.getfield 51, 3) := by decide +kernel
theorem dX10_mark_4 : decode cX10_mark 4 = .ok (.iload_n 1, 1) := by decide +kernel
theorem dX10_mark_5 : decode cX10_mark 5 = .ok (.iload_n 2, 1) := by decide +kernel
theorem dX10_mark_6 : decode cX10_mark 6 = .ok (.iload_n 3, 1) := by decide +kernel
theorem dX10_mark_7 : decode cX10_mark 7 = .ok (.invokevirtual 279, 3) := by decide +kernel
theorem dX10_mark_10 : decode cX10_mark 10 = .ok (.ireturn, 1) := by decide +kernel
theorem dX10_kin_0 : decode cX10_kin 0 = .ok (.aload_n 0, 1) := by decide +kernel
theorem dX10_kin_1 : decode cX10_kin 1 = .ok (.getfield 51, 3) := by decide +kernel
theorem dX10_kin_4 : decode cX10_kin 4 = .ok (.iload_n 1, 1) := by decide +kernel
theorem dX10_kin_5 : decode cX10_kin 5 = .ok (.iload_n 2, 1) := by decide +kernel
theorem dX10_kin_6 : decode cX10_kin 6 = .ok (.iload_n 3, 1) := by decide +kernel
theorem dX10_kin_7 : decode cX10_kin 7 = .ok (.invokevirtual 282, 3) := by decide +kernel
theorem dX10_kin_10 : decode cX10_kin 10 = .ok (.ireturn, 1) := by decide +kernel
theorem dX10_middle_0 : decode cX10_middle 0 = .ok (.aload_n 0, 1) := by decide +kernel
theorem dX10_middle_1 : decode cX10_middle 1 = .ok (.getfield 51, 3) := by decide +kernel
theorem dX10_middle_4 : decode cX10_middle 4 = .ok (.iload_n 1, 1) := by decide +kernel
theorem dX10_middle_5 : decode cX10_middle 5 = .ok (.invokevirtual 286, 3) := by decide +kernel
theorem dX10_middle_8 : decode cX10_middle 8 = .ok (.ireturn, 1) := by decide +kernel
theorem dX10_winner_0 : decode cX10_winner 0 = .ok (.aload_n 0, 1) := by decide +kernel
theorem dX10_winner_1 : decode cX10_winner 1 = .ok (.getfield 51, 3) := by decide +kernel
theorem dX10_winner_4 : decode cX10_winner 4 = .ok (.invokevirtual 289, 3) := by decide +kernel
theorem dX10_winner_7 : decode cX10_winner 7 = .ok (.ireturn, 1) := by decide +kernel
theorem dX10_isWithin_0 : decode cX10_isWithin 0 = .ok (.iload_n 0, 1) := by decide +kernel
theorem dX10_isWithin_1 : decode cX10_isWithin 1 = .ok (.iload_n 1, 1) := by decide +kernel
theorem dX10_isWithin_2 : decode cX10_isWithin 2 = .ok (.if_icmp .lt 12, 3) := by decide +kernel
theorem dX10_isWithin_5 : decode cX10_isWithin 5 = .ok (.iload_n 0, 1) := by decide +kernel
theorem dX10_isWithin_6 : decode cX10_isWithin 6 = .ok (.iload_n 2, 1) := by decide +kernel
theorem dX10_isWithin_7 : decode cX10_isWithin 7 = .ok (.if_icmp .gt 7, 3) := by decide +kernel
theorem dX10_isWithin_10 : decode cX10_isWithin 10 = .ok (.iconst 1, 1) := by decide +kernel
theorem dX10_isWithin_11 : decode cX10_isWithin 11 = .ok (.goto 4, 3) := by decide +kernel
theorem dX10_isWithin_14 : decode cX10_isWithin 14 = .ok (.iconst 0, 1) := by decide +kernel
theorem dX10_isWithin_15 : decode cX10_isWithin 15 = .ok (.ireturn, 1) := by decide +kernel
theorem dX11_init_0 : decode cX11_init 0 = .ok (.aload_n 0, 1) := by decide +kernel
theorem dX11_init_1 : decode cX11_init 1 = .ok (.invokespecial 1, 3) := by decide +kernel
theorem dX11_init_4 : decode cX11_init 4 = .ok (.aload_n 0, 1) := by decide +kernel
theorem dX11_init_5 : decode cX11_init 5 = .ok (.sipush 200, 3) := by decide +kernel
theorem dX11_init_8 : decode cX11_init 8 = .ok (.newarray .int, 2) := by decide +kernel
theorem dX11_init_10 : decode cX11_init 10 = .ok (.putfield 9, 3) := by decide +kernel
theorem dX11_init_13 : decode cX11_init 13 = .ok (.aload_n 0, 1) := by decide +kernel
theorem dX11_init_14 : decode cX11_init 14 = .ok (.bipush 60, 2) := by decide +kernel
theorem dX11_init_16 : decode cX11_init 16 = .ok (.newarray .int, 2) := by decide +kernel
theorem dX11_init_18 : decode cX11_init 18 = .ok (.putfield 13, 3) := by decide +kernel
theorem dX11_init_21 : decode cX11_init 21 = .ok (.aload_n 0, 1) := by decide +kernel
theorem dX11_init_22 : decode cX11_init 22 = .ok (.bipush 60, 2) := by decide +kernel
theorem dX11_init_24 : decode cX11_init 24 = .ok (.newarray .int, 2) := by decide +kernel
theorem dX11_init_26 : decode cX11_init 26 = .ok (.putfield 16, 3) := by decide +kernel
theorem dX11_init_29 : decode cX11_init 29 = .ok (.aload_n 0, 1) := by decide +kernel
theorem dX11_init_30 : decode cX11_init 30 = .ok (.bipush 60, 2) := by decide +kernel
theorem dX11_init_32 : decode cX11_init 32 = .ok (.newarray .int, 2) := by decide +kernel
theorem dX11_init_34 : decode cX11_init 34 = .ok (.putfield 19, 3) := by decide +kernel
theorem dX11_init_37 : decode cX11_init 37 = .ok (.aload_n 0, 1) := by decide +kernel
theorem dX11_init_38 : decode cX11_init 38 = .ok (.bipush 10, 2) := by decide +kernel
theorem dX11_init_40 : decode cX11_init 40 = .ok (.newarray .int, 2) := by decide +kernel
theorem dX11_init_42 : decode cX11_init 42 = .ok (.putfield 22, 3) := by decide +kernel
theorem dX11_init_45 : decode cX11_init 45 = .ok (.aload_n 0, 1) := by decide +kernel
theorem dX11_init_46 : decode cX11_init 46 = .ok (.bipush 10, 2) := by decide +kernel
theorem dX11_init_48 : decode cX11_init 48 = .ok (.newarray .boolean, 2) := by decide +kernel
theorem dX11_init_50 : decode cX11_init 50 = .ok (.putfield 25, 3) := by decide +kernel
theorem dX11_init_53 : decode cX11_init 53 = .ok (.aload_n 0, 1) := by decide +kernel
theorem dX11_init_54 : decode cX11_init 54 = .ok (.bipush 40, 2) := by decide +kernel
theorem dX11_init_56 : decode cX11_init 56 = .ok (.newarray .int, 2) := by decide +kernel
theorem dX11_init_58 : decode cX11_init 58 = .ok (.putfield 29, 3) := by decide +kernel
theorem dX11_init_61 : decode cX11_init 61 = .ok (.aload_n 0, 1) := by decide +kernel
theorem dX11_init_62 : decode cX11_init 62 = .ok (.bipush 40, 2) := by decide +kernel
theorem dX11_init_64 : decode cX11_init 64 = .ok (.newarray .int, 2) := by decide +kernel
theorem dX11_init_66 : decode cX11_init 66 = .ok (.putfield 32, 3) := by decide +kernel
theorem dX11_init_69 : decode cX11_init 69 = .ok (.aload_n 0, 1) := by decide +kernel
theorem dX11_init_70 : decode cX11_init 70 = .ok (.bipush 40, 2) := by decide +kernel
theorem dX11_init_72 : decode cX11_init 72 = .ok (.newarray .int, 2) := by decide +kernel
theorem dX11_init_74 : decode cX11_init 74 = .ok (.putfield 35, 3) := by decide +kernel
theorem dX11_init_77 : decode cX11_init 77 = .ok (.aload_n 0, 1) := by decide +kernel
theorem dX11_init_78 : decode cX11_init 78 = .ok (.bipush 40, 2) := by decide +kernel
theorem dX11_init_80 : decode cX11_init 80 = .ok (.newarray .int, 2) := by decide +kernel
theorem dX11_init_82 : decode cX11_init 82 = .ok (.putfield 38, 3) := by decide +kernel
theorem dX11_init_85 : decode cX11_init 85 = .ok (.aload_n 0, 1) := by decide +kernel
theorem dX11_init_86 : decode cX11_init 86 = .ok (.bipush 40, 2) := by decide +kernel
theorem dX11_init_88 : decode cX11_init 88 = .ok (.newarray .int, 2) := by decide +kernel
theorem dX11_init_90 : decode cX11_init 90 = .ok (.putfield 41, 3) := by decide +kernel
theorem dX11_init_93 : decode cX11_init 93 = .ok (.aload_n 0, 1) := by decide +kernel
theorem dX11_init_94 : decode cX11_init 94 = .ok (.bipush 40, 2) := by decide +kernel
theorem dX11_init_96 : decode cX11_init 96 = .ok (.newarray .int, 2) := by decide +kernel
theorem dX11_init_98 : decode cX11_init 98 = .ok (.putfield 44, 3) := by decide +kernel
theorem dX11_init_101 : decode cX11_init 101 = .ok (.aload_n 0, 1) := by decide +kernel
theorem dX11_init_102 : decode cX11_init 102 = .ok (.bipush 40, 2) := by decide +kernel
theorem dX11_init_104 : decode cX11_init 104 = .ok (.newarray .boolean, 2) := by decide +kernel
theorem dX11_init_106 : decode cX11_init 106 = .ok (.putfield 47, 3) := by decide +kernel
theorem dX11_init_109 : decode cX11_init 109 = .ok (.aload_n 0, 1) := by decide +kernel
theorem dX11_init_110 : decode cX11_init 110 = .ok (.bipush 40, 2) := by decide +kernel
theorem dX11_init_112 : decode cX11_init 112 = .ok (.newarray .boolean, 2) := by decide +kernel
theorem dX11_init_114 : decode cX11_init 114 = .ok (.putfield 50, 3) := by decide +kernel
theorem dX11_init_117 : decode cX11_init 117 = .ok (.aload_n 0, 1) := by decide +kernel
theorem dX11_init_118 : decode cX11_init 118 = .ok (.bipush 40, 2) := by decide +kernel
theorem dX11_init_120 : decode cX11_init 120 = .ok (.newarray .boolean, 2) := by decide +kernel
theorem dX11_init_122 : decode cX11_init 122 = .ok (.putfield 53, 3) := by decide +kernel
theorem dX11_init_125 : decode cX11_init 125 = .ok (.aload_n 0, 1) := by decide +kernel
theorem dX11_init_126 : decode cX11_init 126 = .ok (.sipush 488, 3) := by decide +kernel
theorem dX11_init_129 : decode cX11_init 129 = .ok (.newarray .int, 2) := by decide +kernel
theorem dX11_init_131 : decode cX11_init 131 = .ok (.putfield 56, 3) := by decide +kernel
theorem dX11_init_134 : decode cX11_init 134 = .ok (.aload_n 0, 1) := by decide +kernel
theorem dX11_init_135 : decode cX11_init 135 = .ok (.sipush 900, 3) := by decide +kernel
theorem dX11_init_138 : decode cX11_init 138 = .ok (.newarray .int, 2) := by decide +kernel
theorem dX11_init_140 : decode cX11_init 140 = .ok (.putfield 59, 3) := by decide +kernel
theorem dX11_init_143 : decode cX11_init 143 = .ok (.aload_n 0, 1) := by decide +kernel
theorem dX11_init_144 : decode cX11_init 144 = .ok (.sipush 900, 3) := by decide +kernel
theorem dX11_init_147 : decode cX11_init 147 = .ok (.newarray .int, 2) := by decide +kernel
theorem dX11_init_149 : decode cX11_init 149 = .ok (.putfield 62, 3) := by decide +kernel
theorem dX11_init_152 : decode cX11_init 152 = .ok (.aload_n 0, 1) := by decide +kernel
theorem dX11_init_153 : decode cX11_init 153 = .ok (.sipush 900, 3) := by decide +kernel
theorem dX11_init_156 : decode cX11_init 156 = .ok (.newarray .int, 2) := by decide +kernel
theorem dX11_init_158 : decode cX11_init 158 = .ok (.putfield 65, 3) := by decide +kernel
theorem dX11_init_161 : decode cX11_init 161 = .ok (.aload_n 0, 1) := by decide +kernel
theorem dX11_init_162 : decode cX11_init 162 = .ok (.sipush 900, 3) := by decide +kernel
theorem dX11_init_165 : decode cX11_init 165 = .ok (.newarray .long, 2) := by decide +kernel
theorem dX11_init_167 : decode cX11_init 167 = .ok (.putfield 68, 3) := by decide +kernel
theorem dX11_init_170 : decode cX11_init 170 = .ok (.aload_n 0, 1) := by decide +kernel
theorem dX11_init_171 : decode cX11_init 171 = .ok (.sipush 900, 3) := by decide +kernel
theorem dX11_init_174 : decode cX11_init 174 = .ok (.newarray .int, 2) := by decide +kernel
theorem dX11_init_176 : decode cX11_init 176 = .ok (.putfield 72, 3) := by decide +kernel
theorem dX11_init_179 : decode cX11_init 179 = .ok (.aload_n 0, 1) := by decide +kernel
theorem dX11_init_180 : decode cX11_init 180 = .ok (.iconst 4, 1) := by decide +kernel
theorem dX11_init_181 : decode cX11_init 181 = .ok (.newarray .int, 2) := by decide +kernel
theorem dX11_init_183 : decode cX11_init 183 = .ok (.dup, 1) := by decide +kernel
theorem dX11_init_184 : decode cX11_init 184 = .ok (.iconst 0, 1) := by decide +kernel
theorem dX11_init_185 : decode cX11_init 185 = .ok (.bipush 50, 2) := by decide +kernel
theorem dX11_init_187 : decode cX11_init 187 = .ok (.iastore, 1) := by decide +kernel
theorem dX11_init_188 : decode cX11_init 188 = .ok (.dup, 1) := by decide +kernel
theorem dX11_init_189 : decode cX11_init 189 = .ok (.iconst 1, 1) := by decide +kernel
theorem dX11_init_190 : decode cX11_init 190 = .ok (.bipush 50, 2) := by decide +kernel
theorem dX11_init_192 : decode cX11_init 192 = .ok (.iastore, 1) := by decide +kernel
theorem dX11_init_193 : decode cX11_init 193 = .ok (.dup, 1) := by decide +kernel
theorem dX11_init_194 : decode cX11_init 194 = .ok (.iconst 2, 1) := by decide +kernel
theorem dX11_init_195 : decode cX11_init 195 = .ok (.bipush 50, 2) := by decide +kernel
theorem dX11_init_197 : decode cX11_init 197 = .ok (.iastore, 1) := by decide +kernel
theorem dX11_init_198 : decode cX11_init 198 = .ok (.dup, 1) := by decide +kernel
theorem dX11_init_199 : decode cX11_init 199 = .ok (.iconst 3, 1) := by decide +kernel
theorem dX11_init_200 : decode cX11_init 200 = .ok (.bipush 50, 2) := by decide +kernel
theorem dX11_init_202 : decode cX11_init 202 = .ok (.iastore, 1) := by decide +kernel
theorem dX11_init_203 : decode cX11_init 203 = .ok (.putfield 75, 3) := by decide +kernel
theorem dX11_init_206 : decode cX11_init 206 = .ok (.aload_n 0, 1) := by decide +kernel
theorem dX11_init_207 : decode cX11_init 207 = .ok (.sipush 180, 3) := by decide +kernel
theorem dX11_init_210 : decode cX11_init 210 = .ok (.newarray .int, 2) := by decide +kernel
theorem dX11_init_212 : decode cX11_init 212 = .ok (.putfield 78, 3) := by decide +kernel
theorem dX11_init_215 : decode cX11_init 215 = .ok (.aload_n 0, 1) := by decide +kernel
theorem dX11_init_216 : decode cX11_init 216 = .ok (.sipush 180, 3) := by decide +kernel
theorem dX11_init_219 : decode cX11_init 219 = .ok (.newarray .boolean, 2) := by decide +kernel
theorem dX11_init_221 : decode cX11_init 221 = .ok (.putfield 81, 3) := by decide +kernel
theorem dX11_init_224 : decode cX11_init 224 = .ok (.iconst 0, 1) := by decide +kernel
theorem dX11_init_225 : decode cX11_init 225 = .ok (.istore_n 1, 1) := by decide +kernel
theorem dX11_init_226 : decode cX11_init 226 = .ok (.iload_n 1, 1) := by decide +kernel
theorem dX11_init_227 : decode cX11_init 227 = .ok (.bipush 10, 2) := by decide +kernel
theorem dX11_init_229 : decode cX11_init 229 = .ok (.if_icmp .ge 16, 3) := by decide +kernel
theorem dX11_init_232 : decode cX11_init 232 = .ok (.aload_n 0, 1) := by decide +kernel
theorem dX11_init_233 : decode cX11_init 233 = .ok (.getfield 22, 3) := by decide +kernel
theorem dX11_init_236 : decode cX11_init 236 = .ok (.iload_n 1, 1) := by decide +kernel
theorem dX11_init_237 : decode cX11_init 237 = .ok (.iconst 2, 1) := by decide +kernel
theorem dX11_init_238 : decode cX11_init 238 = .ok (.iastore, 1) := by decide +kernel
theorem dX11_init_239 : decode cX11_init 239 = .ok (.iinc 1 1, 3) := by decide +kernel
theorem dX11_init_242 : decode cX11_init 242 = .ok (.goto (-16), 3) := by decide +kernel
theorem dX11_init_245 : decode cX11_init 245 = .ok (.iconst 0, 1) := by decide +kernel
theorem dX11_init_246 : decode cX11_init 246 = .ok (.istore_n 1, 1) := by decide +kernel
theorem dX11_init_247 : decode cX11_init 247 = .ok (.iload_n 1, 1) := by decide +kernel
theorem dX11_init_248 : decode cX11_init 248 = .ok (.sipush 180, 3) := by decide +kernel
theorem dX11_init_251 : decode cX11_init 251 = .ok (.if_icmp .ge 16, 3) := by decide +kernel
theorem dX11_init_254 : decode cX11_init 254 = .ok (.aload_n 0, 1) := by decide +kernel
theorem dX11_init_255 : decode cX11_init 255 = .ok (.getfield 78, 3) := by decide +kernel
theorem dX11_init_258 : decode cX11_init 258 = .ok (.iload_n 1, 1) := by decide +kernel
theorem dX11_init_259 : decode cX11_init 259 = .ok (.iconst (-1), 1) := by decide +kernel
theorem dX11_init_260 : decode cX11_init 260 = .ok (.iastore, 1) := by decide +kernel
theorem dX11_init_261 : decode cX11_init 261 = .ok (.iinc 1 1, 3) := by decide +kernel
theorem dX11_init_264 : decode cX11_init 264 = .ok (.goto (-17), 3) := by decide +kernel
theorem dX11_init_267 : decode cX11_init 267 = .ok (.return_, 1) := by decide +kernel
theorem dX11_thrown_0 : decode cX11_thrown 0 = .ok (.aload_n 0, 1) := by decide +kernel
theorem dX11_thrown_1 : decode cX11_thrown 1 = .ok (.getfield 84, 3) := by decide +kernel
theorem dX11_thrown_4 : decode cX11_thrown 4 = .ok (.ireturn, 1) := by decide +kernel
theorem dX11_in_0 : decode cX11_in 0 = .ok (.iload_n 0, 1) := by decide +kernel
theorem dX11_in_1 : decode cX11_in 1 = .ok (.iload_n 1, 1) := by decide +kernel
theorem dX11_in_2 : decode cX11_in 2 = .ok (.if_icmp .lt 12, 3) := by decide +kernel
theorem dX11_in_5 : decode cX11_in 5 = .ok (.iload_n 0, 1) := by decide +kernel
theorem dX11_in_6 : decode cX11_in 6 = .ok (.iload_n 2, 1) := by decide +kernel
theorem dX11_in_7 : decode cX11_in 7 = .ok (.if_icmp .gt 7, 3) := by decide +kernel
theorem dX11_in_10 : decode cX11_in 10 = .ok (.iconst 1, 1) := by decide +kernel
theorem dX11_in_11 : decode cX11_in 11 = .ok (.goto 4, 3) := by decide +kernel
theorem dX11_in_14 : decode cX11_in 14 = .ok (.iconst 0, 1) := by decide +kernel
theorem dX11_in_15 : decode cX11_in 15 = .ok (.ireturn, 1) := by decide +kernel
theorem dX11_isMember_0 : decode cX11_isMember 0 = .ok (.iload_n 1, 1) := by decide +kernel
theorem dX11_isMember_1 : decode cX11_isMember 1 = .ok (.iconst 0, 1) := by decide +kernel
theorem dX11_isMember_2 : decode cX11_isMember 2 = .ok (.aload_n 0, 1) := by decide +kernel
theorem dX11_isMember_3 : decode cX11_isMember 3 = .ok (.getfield 88, 3) := by decide +kernel
theorem dX11_isMember_6 : decode cX11_isMember 6 = .ok (.iconst 1, 1) := by decide +kernel
theorem dX11_isMember_7 : decode cX11_isMember 7 = .ok (.isub, 1) := by decide +kernel
theorem dX11_isMember_8 : decode cX11_isMember 8 = .ok (.invokestatic 91, 3) := by decide +kernel
theorem dX11_isMember_11 : decode cX11_isMember 11 = .ok (.ireturn, 1) := by decide +kernel
theorem dX11_lay_0 : decode cX11_lay 0 = .ok (.bipush 24, 2) := by decide +kernel
theorem dX11_lay_2 : decode cX11_lay 2 = .ok (.istore_n 2, 1) := by decide +kernel
theorem dX11_lay_3 : decode cX11_lay 3 = .ok (.iload_n 2, 1) := by decide +kernel
theorem dX11_lay_4 : decode cX11_lay 4 = .ok (.ifCond .lt 35, 3) := by decide +kernel
theorem dX11_lay_7 : decode cX11_lay 7 = .ok (.aload_n 0, 1) := by decide +kernel
theorem dX11_lay_8 : decode cX11_lay 8 = .ok (.getfield 9, 3) := by decide +kernel
theorem dX11_lay_11 : decode cX11_lay 11 = .ok (.aload_n 0, 1) := by decide +kernel
theorem dX11_lay_12 : decode cX11_lay 12 = .ok (.getfield 95, 3) := by decide +kernel
theorem dX11_lay_15 : decode cX11_lay 15 = .ok (.iload_n 1, 1) := by decide +kernel
theorem dX11_lay_16 : decode cX11_lay 16 = .ok (.iload_n 2, 1) := by decide +kernel
theorem dX11_lay_17 : decode cX11_lay 17 = .ok (.ishr, 1) := by decide +kernel
theorem dX11_lay_18 : decode cX11_lay 18 = .ok (.sipush 255, 3) := by decide +kernel
theorem dX11_lay_21 : decode cX11_lay 21 = .ok (.iand, 1) := by decide +kernel
theorem dX11_lay_22 : decode cX11_lay 22 = .ok (.iastore, 1) := by decide +kernel
theorem dX11_lay_23 : decode cX11_lay 23 = .ok (.aload_n 0, 1) := by decide +kernel
theorem dX11_lay_24 : decode cX11_lay 24 = .ok (.dup, 1) := by decide +kernel
theorem dX11_lay_25 : decode cX11_lay 25 = .ok (.getfield 95, 3) := by decide +kernel
theorem dX11_lay_28 : decode cX11_lay 28 = .ok (.iconst 1, 1) := by decide +kernel
theorem dX11_lay_29 : decode cX11_lay 29 = .ok (.iadd, 1) := by decide +kernel
theorem dX11_lay_30 : decode cX11_lay 30 = .ok (.putfield 95, 3) := by decide +kernel
theorem dX11_lay_33 : decode cX11_lay 33 = .ok (.iinc 2 (-8), 3) := by decide +kernel
theorem dX11_lay_36 : decode cX11_lay 36 = .ok (.goto (-33), 3) := by decide +kernel
theorem dX11_lay_39 : decode cX11_lay 39 = .ok (.return_, 1) := by decide +kernel
theorem dX11_feed_0 : decode cX11_feed 0 = .ok (.aload_n 0, 1) := by decide +kernel
theorem dX11_feed_1 : decode cX11_feed 1 = .ok (.iconst 0, 1) := by decide +kernel
theorem dX11_feed_2 : decode cX11_feed 2 = .ok (.putfield 84, 3) := by decide +kernel
theorem dX11_feed_5 : decode cX11_feed 5 = .ok (.aload_n 0, 1) := by decide +kernel
theorem dX11_feed_6 : decode cX11_feed 6 = .ok (.getfield 95, 3) := by decide +kernel
theorem dX11_feed_9 : decode cX11_feed 9 = .ok (.bipush 20, 2) := by decide +kernel
theorem dX11_feed_11 : decode cX11_feed 11 = .ok (.iadd, 1) := by decide +kernel
theorem dX11_feed_12 : decode cX11_feed 12 = .ok (.sipush 200, 3) := by decide +kernel
theorem dX11_feed_15 : decode cX11_feed 15 = .ok (.if_icmp .le 5, 3) := by decide +kernel
theorem dX11_feed_18 : decode cX11_feed 18 = .ok (.iconst (-1), 1) := by decide +kernel
theorem dX11_feed_19 : decode cX11_feed 19 = .ok (.ireturn, 1) := by decide +kernel
theorem dX11_feed_20 : decode cX11_feed 20 = .ok (.aload_n 0, 1) := by decide +kernel
theorem dX11_feed_21 : decode cX11_feed 21 = .ok (.iload_n 1, 1) := by decide +kernel
theorem dX11_feed_22 : decode cX11_feed 22 = .ok (.invokevirtual 98, 3) := by decide +kernel
theorem dX11_feed_25 : decode cX11_feed 25 = .ok (.aload_n 0, 1) := by decide +kernel
theorem dX11_feed_26 : decode cX11_feed 26 = .ok (.iload_n 2, 1) := by decide +kernel
theorem dX11_feed_27 : decode cX11_feed 27 = .ok (.invokevirtual 98, 3) := by decide +kernel
theorem dX11_feed_30 : decode cX11_feed 30 = .ok (.aload_n 0, 1) := by decide +kernel
theorem dX11_feed_31 : decode cX11_feed 31 = .ok (.iload_n 3, 1) := by decide +kernel
theorem dX11_feed_32 : decode cX11_feed 32 = .ok (.invokevirtual 98, 3) := by decide +kernel
theorem dX11_feed_35 : decode cX11_feed 35 = .ok (.aload_n 0, 1) := by decide +kernel
theorem dX11_feed_36 : decode cX11_feed 36 = .ok (.iload 4, 2) := by decide +kernel
theorem dX11_feed_38 : decode cX11_feed 38 = .ok (.invokevirtual 98, 3) := by decide +kernel
theorem dX11_feed_41 : decode cX11_feed 41 = .ok (.aload_n 0, 1) := by decide +kernel
theorem dX11_feed_42 : decode cX11_feed 42 = .ok (.iload 5, 2) := by decide +kernel
theorem dX11_feed_44 : decode cX11_feed 44 = .ok (.invokevirtual 98, 3) := by decide +kernel
theorem dX11_feed_47 : decode cX11_feed 47 = .ok (.aload_n 0, 1) := by decide +kernel
theorem dX11_feed_48 : decode cX11_feed 48 = .ok (.getfield 95, 3) := by decide +kernel
theorem dX11_feed_51 : decode cX11_feed 51 = .ok (.ireturn, 1) := by decide +kernel
theorem dX11_end_0 : decode cX11_end 0 = .ok (.aload_n 0, 1) := by decide +kernel
theorem dX11_end_1 : decode cX11_end 1 = .ok (.iconst 0, 1) := by decide +kernel
theorem dX11_end_2 : decode cX11_end 2 = .ok (.putfield 84, 3) := by decide +kernel
theorem dX11_end_5 : decode cX11_end 5 = .ok (.iload_n 1, 1) := by decide +kernel
theorem dX11_end_6 : decode cX11_end 6 = .ok (.ifCond .lt 11, 3) := by decide +kernel
theorem dX11_end_9 : decode cX11_end 9 = .ok (.iload_n 1, 1) := by decide +kernel
theorem dX11_end_10 : decode cX11_end 10 = .ok (.aload_n 0, 1) := by decide +kernel
theorem dX11_end_11 : decode cX11_end 11 = .ok (.getfield 95, 3) := by decide +kernel
theorem dX11_end_14 : decode cX11_end 14 = .ok (.if_icmp .le 5, 3) := by decide +kernel
theorem dX11_end_17 : decode cX11_end 17 = .ok (.iconst 0, 1) := by decide +kernel
theorem dX11_end_18 : decode cX11_end 18 = .ok (.ireturn, 1) := by decide +kernel
theorem dX11_end_19 : decode cX11_end 19 = .ok (.aload_n 0, 1) := by decide +kernel
theorem dX11_end_20 : decode cX11_end 20 = .ok (.iload_n 1, 1) := by decide +kernel
theorem dX11_end_21 : decode cX11_end 21 = .ok (.putfield 95, 3) := by decide +kernel
theorem dX11_end_24 : decode cX11_end 24 = .ok (.iconst 1, 1) := by decide +kernel
theorem dX11_end_25 : decode cX11_end 25 = .ok (.ireturn, 1) := by decide +kernel
theorem dX11_here_0 : decode cX11_here 0 = .ok (.aload_n 0, 1) := by decide +kernel
theorem dX11_here_1 : decode cX11_here 1 = .ok (.getfield 102, 3) := by decide +kernel
theorem dX11_here_4 : decode cX11_here 4 = .ok (.aload_n 0, 1) := by decide +kernel
theorem dX11_here_5 : decode cX11_here 5 = .ok (.getfield 105, 3) := by decide +kernel
theorem dX11_here_8 : decode cX11_here 8 = .ok (.if_icmp .ge 15, 3) := by decide +kernel
theorem dX11_here_11 : decode cX11_here 11 = .ok (.aload_n 0, 1) := by decide +kernel
theorem dX11_here_12 : decode cX11_here 12 = .ok (.getfield 9, 3) := by decide +kernel
theorem dX11_here_15 : decode cX11_here 15 = .ok (.aload_n 0, 1) := by decide +kernel
theorem dX11_here_16 : decode cX11_here 16 = .ok (.getfield 102, 3) := by decide +kernel
theorem dX11_here_19 : decode cX11_here 19 = .ok (.iaload, 1) := by decide +kernel
theorem dX11_here_20 : decode cX11_here 20 = .ok (.goto 4, 3) := by decide +kernel
theorem dX11_here_23 : decode cX11_here 23 = .ok (.iconst (-1), 1) := by decide +kernel
theorem dX11_here_24 : decode cX11_here 24 = .ok (.ireturn, 1) := by decide +kernel
theorem dX11_blanks_0 : decode cX11_blanks 0 = .ok (.aload_n 0, 1) := by decide +kernel
theorem dX11_blanks_1 : decode cX11_blanks 1 = .ok (.invokevirtual 108, 3) := by decide +kernel
theorem dX11_blanks_4 : decode cX11_blanks 4 = .ok (.bipush 32, 2) := by decide +kernel
theorem dX11_blanks_6 : decode cX11_blanks 6 = .ok (.if_icmp .ne 16, 3) := by decide +kernel
theorem dX11_blanks_9 : decode cX11_blanks 9 = .ok (.aload_n 0, 1) := by decide +kernel
theorem dX11_blanks_10 : decode cX11_blanks 10 = .ok (.dup, 1) := by decide +kernel
theorem dX11_blanks_11 : decode cX11_blanks 11 = .ok (.getfield 102, 3) := by decide +kernel
theorem dX11_blanks_14 : decode cX11_blanks 14 = .ok (.iconst 1, 1) := by decide +kernel
theorem dX11_blanks_15 : decode cX11_blanks 15 = .ok (.iadd, 1) := by decide +kernel
theorem dX11_blanks_16 : decode cX11_blanks 16 = .ok (.putfield 102, 3) := by decide +kernel
theorem dX11_blanks_19 : decode cX11_blanks 19 = .ok (.goto (-19), 3) := by decide +kernel
theorem dX11_blanks_22 : decode cX11_blanks 22 = .ok (.return_, 1) := by decide +kernel
theorem dX11_fails_0 : decode cX11_fails 0 = .ok (.aload_n 0, 1) := by decide +kernel
theorem dX11_fails_1 : decode cX11_fails 1 = .ok (.iload_n 1, 1) := by decide +kernel
theorem dX11_fails_2 : decode cX11_fails 2 = .ok (.putfield 112, 3) := by decide +kernel
theorem dX11_fails_5 : decode cX11_fails 5 = .ok (.aload_n 0, 1) := by decide +kernel
theorem dX11_fails_6 : decode cX11_fails 6 = .ok (.iload_n 2, 1) := by decide +kernel
theorem dX11_fails_7 : decode cX11_fails 7 = .ok (.putfield 115, 3) := by decide +kernel
theorem dX11_fails_10 : decode cX11_fails 10 = .ok (.iconst 0, 1) := by decide +kernel
theorem dX11_fails_11 : decode cX11_fails 11 = .ok (.ireturn, 1) := by decide +kernel
theorem dX11_nameAt_0 : decode cX11_nameAt 0 = .ok (.iconst 0, 1) := by decide +kernel
theorem dX11_nameAt_1 : decode cX11_nameAt 1 = .ok (.istore_n 3, 1) := by decide +kernel
theorem dX11_nameAt_2 : decode cX11_nameAt 2 = .ok (.iconst 0, 1) := by decide +kernel
theorem dX11_nameAt_3 : decode cX11_nameAt 3 = .ok (.istore 4, 2) := by decide +kernel
theorem dX11_nameAt_5 : decode cX11_nameAt 5 = .ok (.iload 4, 2) := by decide +kernel
theorem dX11_nameAt_7 : decode cX11_nameAt 7 = .ok (.ldc 118, 2) := by decide +kernel
theorem dX11_nameAt_9 : decode cX11_nameAt 9 = .ok (.invokevirtual 120, 3) := by decide +kernel
theorem dX11_nameAt_12 : decode cX11_nameAt 12 = .ok (.if_icmp .ge 102, 3) := by decide +kernel
theorem dX11_nameAt_15 : decode cX11_nameAt 15 = .ok (.ldc 118, 2) := by decide +kernel
theorem dX11_nameAt_17 : decode cX11_nameAt 17 = .ok (.bipush 32, 2) := by decide +kernel
theorem dX11_nameAt_19 : decode cX11_nameAt 19 = .ok (.iload 4, 2) := by decide +kernel
theorem dX11_nameAt_21 : decode cX11_nameAt 21 = .ok (.invokevirtual 125, 3) := by decide +kernel
theorem dX11_nameAt_24 : decode cX11_nameAt 24 = .ok (.istore 5, 2) := by decide +kernel
theorem dX11_nameAt_26 : decode cX11_nameAt 26 = .ok (.iload 5, 2) := by decide +kernel
theorem dX11_nameAt_28 : decode cX11_nameAt 28 = .ok (.iload 4, 2) := by decide +kernel
theorem dX11_nameAt_30 : decode cX11_nameAt 30 = .ok (.isub, 1) := by decide +kernel
theorem dX11_nameAt_31 : decode cX11_nameAt 31 = .ok (.iload_n 2, 1) := by decide +kernel
theorem dX11_nameAt_32 : decode cX11_nameAt 32 = .ok (.iload_n 1, 1) := by decide +kernel
theorem dX11_nameAt_33 : decode cX11_nameAt 33 = .ok (.isub, 1) := by decide +kernel
theorem dX11_nameAt_34 : decode cX11_nameAt 34 = .ok (.if_icmp .ne 7, 3) := by decide +kernel
theorem dX11_nameAt_37 : decode cX11_nameAt 37 = .ok (.iconst 1, 1) := by decide +kernel
theorem dX11_nameAt_38 : decode cX11_nameAt 38 = .ok (.goto 4, 3) := by decide +kernel
theorem dX11_nameAt_41 : decode cX11_nameAt 41 = .ok (.iconst 0, 1) := by decide +kernel
theorem dX11_nameAt_42 : decode cX11_nameAt 42 = .ok (.istore 6, 2) := by decide +kernel
theorem dX11_nameAt_44 : decode cX11_nameAt 44 = .ok (.iconst 0, 1) := by decide +kernel
theorem dX11_nameAt_45 : decode cX11_nameAt 45 = .ok (.istore 7, 2) := by decide +kernel
theorem dX11_nameAt_47 : decode cX11_nameAt 47 = .ok (.iload 6, 2) := by decide +kernel
theorem dX11_nameAt_49 : decode cX11_nameAt 49 = .ok (.ifCond .eq 46, 3) := by decide +kernel
theorem dX11_nameAt_52 : decode cX11_nameAt 52 = .ok (.iload 7, 2) := by decide +kernel
theorem dX11_nameAt_54 : decode cX11_nameAt 54 = .ok (.iload_n 2, 1) := by decide +kernel
theorem dX11_nameAt_55 : decode cX11_nameAt 55 = .ok (.iload_n 1, 1) := by decide +kernel
theorem dX11_nameAt_56 : decode cX11_nameAt 56 = .ok (.isub, 1) := by decide +kernel
theorem dX11_nameAt_57 : decode cX11_nameAt 57 = .ok (.if_icmp .ge 38, 3) := by decide +kernel
theorem dX11_nameAt_60 : decode cX11_nameAt 60 = .ok (.ldc 118, 2) := by decide +kernel
theorem dX11_nameAt_62 : decode cX11_nameAt 62 = .ok (.iload 4, 2) := by decide +kernel
theorem dX11_nameAt_64 : decode cX11_nameAt 64 = .ok (.iload 7, 2) := by decide +kernel
theorem dX11_nameAt_66 : decode cX11_nameAt 66 = .ok (.iadd, 1) := by decide +kernel
theorem dX11_nameAt_67 : decode cX11_nameAt 67 = .ok (.invokevirtual 129, 3) := by decide +kernel
theorem dX11_nameAt_70 : decode cX11_nameAt 70 = .ok (.aload_n 0, 1) := by decide +kernel
theorem dX11_nameAt_71 : decode cX11_nameAt 71 = .ok (.getfield 9, 3) := by decide +kernel
theorem dX11_nameAt_74 : decode cX11_nameAt 74 = .ok (.iload_n 1, 1) := by decide +kernel
theorem dX11_nameAt_75 : decode cX11_nameAt 75 = .ok (.iload 7, 2) := by decide +kernel
theorem dX11_nameAt_77 : decode cX11_nameAt 77 = .ok (.iadd, 1) := by decide +kernel
theorem dX11_nameAt_78 : decode cX11_nameAt 78 = .ok (.iaload, 1) := by decide +kernel
theorem dX11_nameAt_79 : decode cX11_nameAt 79 = .ok (.if_icmp .ne 7, 3) := by decide +kernel
theorem dX11_nameAt_82 : decode cX11_nameAt 82 = .ok (.iconst 1, 1) := by decide +kernel
theorem dX11_nameAt_83 : decode cX11_nameAt 83 = .ok (.goto 4, 3) := by decide +kernel
theorem dX11_nameAt_86 : decode cX11_nameAt 86 = .ok (.iconst 0, 1) := by decide +kernel
theorem dX11_nameAt_87 : decode cX11_nameAt 87 = .ok (.istore 6, 2) := by decide +kernel
theorem dX11_nameAt_89 : decode cX11_nameAt 89 = .ok (.iinc 7 1, 3) := by decide +kernel
theorem dX11_nameAt_92 : decode cX11_nameAt 92 = .ok (.goto (-45), 3) := by decide +kernel
theorem dX11_nameAt_95 : decode cX11_nameAt 95 = .ok (.iload 6, 2) := by decide +kernel
theorem dX11_nameAt_97 : decode cX11_nameAt 97 = .ok (.ifCond .eq 5, 3) := by decide +kernel
theorem dX11_nameAt_100 : decode cX11_nameAt 100 = .ok (.iload_n 3, 1) := by decide +kernel
theorem dX11_nameAt_101 : decode cX11_nameAt 101 = .ok (.ireturn, 1) := by decide +kernel
theorem dX11_nameAt_102 : decode cX11_nameAt 102 = .ok (.iinc 3 1, 3) := by decide +kernel
theorem dX11_nameAt_105 : decode cX11_nameAt 105 = .ok (.iload 5, 2) := by decide +kernel
theorem dX11_nameAt_107 : decode cX11_nameAt 107 = .ok (.iconst 1, 1) := by decide +kernel
theorem dX11_nameAt_108 : decode cX11_nameAt 108 = .ok (.iadd, 1) := by decide +kernel
theorem dX11_nameAt_109 : decode cX11_nameAt 109 = .ok (.istore 4, 2) := by decide +kernel
theorem dX11_nameAt_111 : decode cX11_nameAt 111 = .ok (.goto (-106), 3) := by decide +kernel
theorem dX11_nameAt_114 : decode cX11_nameAt 114 = .ok (.iconst (-1), 1) := by decide +kernel
theorem dX11_nameAt_115 : decode cX11_nameAt 115 = .ok (.ireturn, 1) := by decide +kernel
theorem dX11_readNumber_0 : decode cX11_readNumber 0 = .ok (.aload_n 0, 1) := by decide +kernel
theorem dX11_readNumber_1 : decode cX11_readNumber 1 = .ok (.getfield 102, 3) := by decide +kernel
theorem dX11_readNumber_4 : decode cX11_readNumber 4 = .ok (.istore_n 2, 1) := by decide +kernel
theorem dX11_readNumber_5 : decode cX11_readNumber 5 = .ok (.aload_n 0, 1) := by decide +kernel
theorem dX11_readNumber_6 : decode cX11_readNumber 6 = .ok (.invokevirtual 108, 3) := by decide +kernel
theorem dX11_readNumber_9 : decode cX11_readNumber 9 = .ok (.bipush 48, 2) := by decide +kernel
theorem dX11_readNumber_11 : decode cX11_readNumber 11 = .ok (.bipush 57, 2) := by decide +kernel
theorem dX11_readNumber_13 : decode cX11_readNumber 13 = .ok (.invokestatic 91, 3) := by decide +kernel
theorem dX11_readNumber_16 : decode cX11_readNumber 16 = .ok (.ifCond .ne 13, 3) := by decide +kernel
theorem dX11_readNumber_19 : decode cX11_readNumber 19 = .ok (.aload_n 0, 1) := by decide +kernel
theorem dX11_readNumber_20 : decode cX11_readNumber 20 = .ok (.iconst 1, 1) := by decide +kernel
theorem dX11_readNumber_21 : decode cX11_readNumber 21 = .ok (.aload_n 0, 1) := by decide +kernel
theorem dX11_readNumber_22 : decode cX11_readNumber 22 = .ok (.getfield 102, 3) := by decide +kernel
theorem dX11_readNumber_25 : decode cX11_readNumber 25 = .ok (.invokevirtual 133, 3) := by decide +kernel
theorem dX11_readNumber_28 : decode cX11_readNumber 28 = .ok (.ireturn, 1) := by decide +kernel
theorem dX11_readNumber_29 : decode cX11_readNumber 29 = .ok (.iconst 0, 1) := by decide +kernel
theorem dX11_readNumber_30 : decode cX11_readNumber 30 = .ok (.istore_n 3, 1) := by decide +kernel
theorem dX11_readNumber_31 : decode cX11_readNumber 31 = .ok (.aload_n 0, 1) := by decide +kernel
theorem dX11_readNumber_32 : decode cX11_readNumber 32 = .ok (.invokevirtual 108, 3) := by decide +kernel
theorem dX11_readNumber_35 : decode cX11_readNumber 35 = .ok (.bipush 48, 2) := by decide +kernel
theorem dX11_readNumber_37 : decode cX11_readNumber 37 = .ok (.bipush 57, 2) := by decide +kernel
theorem dX11_readNumber_39 : decode cX11_readNumber 39 = .ok (.invokestatic 91, 3) := by decide +kernel
theorem dX11_readNumber_42 : decode cX11_readNumber 42 = .ok (.ifCond .eq 39, 3) := by decide +kernel
theorem dX11_readNumber_45 : decode cX11_readNumber 45 = .ok (.iload_n 3, 1) := by decide +kernel
theorem dX11_readNumber_46 : decode cX11_readNumber 46 = .ok (.ldc 137, 2) := by decide +kernel
theorem dX11_readNumber_48 : decode cX11_readNumber 48 = .ok (.if_icmp .le 7, 3) := by decide +kernel
theorem dX11_readNumber_51 : decode cX11_readNumber 51 = .ok (.iload_n 3, 1) := by decide +kernel
theorem dX11_readNumber_52 : decode cX11_readNumber 52 = .ok (.goto 15, 3) := by decide +kernel
theorem dX11_readNumber_55 : decode cX11_readNumber 55 = .ok (.bipush 10, 2) := by decide +kernel
theorem dX11_readNumber_57 : decode cX11_readNumber 57 = .ok (.iload_n 3, 1) := by decide +kernel
theorem dX11_readNumber_58 : decode cX11_readNumber 58 = .ok (.imul, 1) := by decide +kernel
theorem dX11_readNumber_59 : decode cX11_readNumber 59 = .ok (.aload_n 0, 1) := by decide +kernel
theorem dX11_readNumber_60 : decode cX11_readNumber 60 = .ok (.invokevirtual 108, 3) := by decide +kernel
theorem dX11_readNumber_63 : decode cX11_readNumber 63 = .ok (.iadd, 1) := by decide +kernel
theorem dX11_readNumber_64 : decode cX11_readNumber 64 = .ok (.bipush 48, 2) := by decide +kernel
theorem dX11_readNumber_66 : decode cX11_readNumber 66 = .ok (.isub, 1) := by decide +kernel
theorem dX11_readNumber_67 : decode cX11_readNumber 67 = .ok (.istore_n 3, 1) := by decide +kernel
theorem dX11_readNumber_68 : decode cX11_readNumber 68 = .ok (.aload_n 0, 1) := by decide +kernel
theorem dX11_readNumber_69 : decode cX11_readNumber 69 = .ok (.dup, 1) := by decide +kernel
theorem dX11_readNumber_70 : decode cX11_readNumber 70 = .ok (.getfield 102, 3) := by decide +kernel
theorem dX11_readNumber_73 : decode cX11_readNumber 73 = .ok (.iconst 1, 1) := by decide +kernel
theorem dX11_readNumber_74 : decode cX11_readNumber 74 = .ok (.iadd, 1) := by decide +kernel
theorem dX11_readNumber_75 : decode cX11_readNumber 75 = .ok (.putfield 102, 3) := by decide +kernel
theorem dX11_readNumber_78 : decode cX11_readNumber 78 = .ok (.goto (-47), 3) := by decide +kernel
theorem dX11_readNumber_81 : decode cX11_readNumber 81 = .ok (.aload_n 0, 1) := by decide +kernel
theorem dX11_readNumber_82 : decode cX11_readNumber 82 = .ok (.iload_n 3, 1) := by decide +kernel
theorem dX11_readNumber_83 : decode cX11_readNumber 83 = .ok (.putfield 138, 3) := by decide +kernel
theorem dX11_readNumber_86 : decode cX11_readNumber 86 = .ok (.iload_n 3, 1) := by decide +kernel
theorem dX11_readNumber_87 : decode cX11_readNumber 87 = .ok (.iload_n 1, 1) := by decide +kernel
theorem dX11_readNumber_88 : decode cX11_readNumber 88 = .ok (.if_icmp .le 12, 3) := by decide +kernel
theorem dX11_readNumber_91 : decode cX11_readNumber 91 = .ok (.aload_n 0, 1) := by decide +kernel
theorem dX11_readNumber_92 : decode cX11_readNumber 92 = .ok (.iconst 2, 1) := by decide +kernel
theorem dX11_readNumber_93 : decode cX11_readNumber 93 = .ok (.iload_n 2, 1) := by decide +kernel
theorem dX11_readNumber_94 : decode cX11_readNumber 94 = .ok (.invokevirtual 133, 3) := by decide +kernel
theorem dX11_readNumber_97 : decode cX11_readNumber 97 = .ok (.ifCond .eq 7, 3) := by decide +kernel
theorem dX11_readNumber_100 : decode cX11_readNumber 100 = .ok (.iconst 1, 1) := by decide +kernel
theorem dX11_readNumber_101 : decode cX11_readNumber 101 = .ok (.goto 4, 3) := by decide +kernel
theorem dX11_readNumber_104 : decode cX11_readNumber 104 = .ok (.iconst 0, 1) := by decide +kernel
theorem dX11_readNumber_105 : decode cX11_readNumber 105 = .ok (.ireturn, 1) := by decide +kernel
theorem dX11_readStatement_0 : decode cX11_readStatement 0 = .ok (.aload_n 0, 1) := by decide +kernel
theorem dX11_readStatement_1 : decode cX11_readStatement 1 = .ok (.invokevirtual 141, 3) := by decide +kernel
theorem dX11_readStatement_4 : decode cX11_readStatement 4 = .ok (.aload_n 0, 1) := by decide +kernel
theorem dX11_readStatement_5 : decode cX11_readStatement 5 = .ok (.getfield 102, 3) := by decide +kernel
theorem dX11_readStatement_8 : decode cX11_readStatement 8 = .ok (.istore_n 2, 1) := by decide +kernel
theorem dX11_readStatement_9 : decode cX11_readStatement 9 = .ok (.aload_n 0, 1) := by decide +kernel
theorem dX11_readStatement_10 : decode cX11_readStatement 10 = .ok (.invokevirtual 108, 3) := by decide +kernel
theorem dX11_readStatement_13 : decode cX11_readStatement 13 = .ok (.bipush 97, 2) := by decide +kernel
theorem dX11_readStatement_15 : decode cX11_readStatement 15 = .ok (.bipush 122, 2) := by decide +kernel
theorem dX11_readStatement_17 : decode cX11_readStatement 17 = .ok (.invokestatic 91, 3) := by decide +kernel
theorem dX11_readStatement_20 : decode cX11_readStatement 20 = .ok (.ifCond .eq 16, 3) := by decide +kernel
theorem dX11_readStatement_23 : decode cX11_readStatement 23 = .ok (.aload_n 0, 1) := by decide +kernel
theorem dX11_readStatement_24 : decode cX11_readStatement 24 = .ok (.dup, 1) := by decide +kernel
theorem dX11_readStatement_25 : decode cX11_readStatement 25 = .ok (.getfield 102, 3) := by decide +kernel
theorem dX11_readStatement_28 : decode cX11_readStatement 28 = .ok (.iconst 1, 1) := by decide +kernel
theorem dX11_readStatement_29 : decode cX11_readStatement 29 = .ok (.iadd, 1) := by decide +kernel
theorem dX11_readStatement_30 : decode cX11_readStatement 30 = .ok (.putfield 102, 3) := by decide +kernel
theorem dX11_readStatement_33 : decode cX11_readStatement 33 = .ok (.goto (-24), 3) := by decide +kernel
theorem dX11_readStatement_36 : decode cX11_readStatement 36 = .ok (.aload_n 0, 1) := by decide +kernel
theorem dX11_readStatement_37 : decode cX11_readStatement 37 = .ok (.iload_n 2, 1) := by decide +kernel
theorem dX11_readStatement_38 : decode cX11_readStatement 38 = .ok (.aload_n 0, 1) := by decide +kernel
theorem dX11_readStatement_39 : decode cX11_readStatement 39 = .ok (.getfield 102, 3) := by decide +kernel
theorem dX11_readStatement_42 : decode cX11_readStatement 42 = .ok (.invokevirtual 144, 3) := by decide +kernel
theorem dX11_readStatement_45 : decode cX11_readStatement 45 = .ok (.istore_n 3, 1) := by decide +kernel
theorem dX11_readStatement_46 : decode cX11_readStatement 46 = .ok (.iload_n 3, 1) := by decide +kernel
theorem dX11_readStatement_47 : decode cX11_readStatement 47 = .ok (.iconst (-1), 1) := by decide +kernel
theorem dX11_readStatement_48 : decode cX11_readStatement 48 = .ok (.if_icmp .ne 10, 3) := by decide +kernel
theorem dX11_readStatement_51 : decode cX11_readStatement 51 = .ok (.aload_n 0, 1) := by decide +kernel
theorem dX11_readStatement_52 : decode cX11_readStatement 52 = .ok (.iconst 1, 1) := by decide +kernel
theorem dX11_readStatement_53 : decode cX11_readStatement 53 = .ok (.iload_n 2, 1) := by decide +kernel
theorem dX11_readStatement_54 : decode cX11_readStatement 54 = .ok (.invokevirtual 133, 3) := by decide +kernel
theorem dX11_readStatement_57 : decode cX11_readStatement 57 = .ok (.ireturn, 1) := by decide +kernel
theorem dX11_readStatement_58 : decode cX11_readStatement 58 = .ok (.iload_n 1, 1) := by decide +kernel
theorem dX11_readStatement_59 : decode cX11_readStatement 59 = .ok (.bipush 60, 2) := by decide +kernel
theorem dX11_readStatement_61 : decode cX11_readStatement 61 = .ok (.if_icmp .ne 10, 3) := by decide +kernel
theorem dX11_readStatement_64 : decode cX11_readStatement 64 = .ok (.aload_n 0, 1) := by decide +kernel
theorem dX11_readStatement_65 : decode cX11_readStatement 65 = .ok (.iconst 3, 1) := by decide +kernel
theorem dX11_readStatement_66 : decode cX11_readStatement 66 = .ok (.iload_n 2, 1) := by decide +kernel
theorem dX11_readStatement_67 : decode cX11_readStatement 67 = .ok (.invokevirtual 133, 3) := by decide +kernel
theorem dX11_readStatement_70 : decode cX11_readStatement 70 = .ok (.ireturn, 1) := by decide +kernel
theorem dX11_readStatement_71 : decode cX11_readStatement 71 = .ok (.aload_n 0, 1) := by decide +kernel
theorem dX11_readStatement_72 : decode cX11_readStatement 72 = .ok (.invokevirtual 141, 3) := by decide +kernel
theorem dX11_readStatement_75 : decode cX11_readStatement 75 = .ok (.aload_n 0, 1) := by decide +kernel
theorem dX11_readStatement_76 : decode cX11_readStatement 76 = .ok (.invokevirtual 108, 3) := by decide +kernel
theorem dX11_readStatement_79 : decode cX11_readStatement 79 = .ok (.bipush 61, 2) := by decide +kernel
theorem dX11_readStatement_81 : decode cX11_readStatement 81 = .ok (.if_icmp .eq 13, 3) := by decide +kernel
theorem dX11_readStatement_84 : decode cX11_readStatement 84 = .ok (.aload_n 0, 1) := by decide +kernel
theorem dX11_readStatement_85 : decode cX11_readStatement 85 = .ok (.iconst 1, 1) := by decide +kernel
theorem dX11_readStatement_86 : decode cX11_readStatement 86 = .ok (.aload_n 0, 1) := by decide +kernel
theorem dX11_readStatement_87 : decode cX11_readStatement 87 = .ok (.getfield 102, 3) := by decide +kernel
theorem dX11_readStatement_90 : decode cX11_readStatement 90 = .ok (.invokevirtual 133, 3) := by decide +kernel
theorem dX11_readStatement_93 : decode cX11_readStatement 93 = .ok (.ireturn, 1) := by decide +kernel
theorem dX11_readStatement_94 : decode cX11_readStatement 94 = .ok (.aload_n 0, 1) := by decide +kernel
theorem dX11_readStatement_95 : decode cX11_readStatement 95 = .ok (.dup, 1) := by decide +kernel
theorem dX11_readStatement_96 : decode cX11_readStatement 96 = .ok (.getfield 102, 3) := by decide +kernel
theorem dX11_readStatement_99 : decode cX11_readStatement 99 = .ok (.iconst 1, 1) := by decide +kernel
theorem dX11_readStatement_100 : decode cX11_readStatement 100 = .ok (.iadd, 1) := by decide +kernel
theorem dX11_readStatement_101 : decode cX11_readStatement 101 = .ok (.putfield 102, 3) := by decide +kernel
theorem dX11_readStatement_104 : decode cX11_readStatement 104 = .ok (.aload_n 0, 1) := by decide +kernel
theorem dX11_readStatement_105 : decode cX11_readStatement 105 = .ok (.invokevirtual 141, 3) := by decide +kernel
theorem dX11_readStatement_108 : decode cX11_readStatement 108 = .ok (.aload_n 0, 1) := by decide +kernel
theorem dX11_readStatement_109 : decode cX11_readStatement 109 = .ok (.sipush 10000, 3) := by decide +kernel
theorem dX11_readStatement_112 : decode cX11_readStatement 112 = .ok (.invokevirtual 147, 3) := by decide +kernel
theorem dX11_readStatement_115 : decode cX11_readStatement 115 = .ok (.ifCond .ne 5, 3) := by decide +kernel
theorem dX11_readStatement_118 : decode cX11_readStatement 118 = .ok (.iconst 0, 1) := by decide +kernel
theorem dX11_readStatement_119 : decode cX11_readStatement 119 = .ok (.ireturn, 1) := by decide +kernel
theorem dX11_readStatement_120 : decode cX11_readStatement 120 = .ok (.aload_n 0, 1) := by decide +kernel
theorem dX11_readStatement_121 : decode cX11_readStatement 121 = .ok (.getfield 13, 3) := by decide +kernel
theorem dX11_readStatement_124 : decode cX11_readStatement 124 = .ok (.iload_n 1, 1) := by decide +kernel
theorem dX11_readStatement_125 : decode cX11_readStatement 125 = .ok (.iload_n 3, 1) := by decide +kernel
theorem dX11_readStatement_126 : decode cX11_readStatement 126 = .ok (.iastore, 1) := by decide +kernel
theorem dX11_readStatement_127 : decode cX11_readStatement 127 = .ok (.aload_n 0, 1) := by decide +kernel
theorem dX11_readStatement_128 : decode cX11_readStatement 128 = .ok (.getfield 16, 3) := by decide +kernel
theorem dX11_readStatement_131 : decode cX11_readStatement 131 = .ok (.iload_n 1, 1) := by decide +kernel
theorem dX11_readStatement_132 : decode cX11_readStatement 132 = .ok (.aload_n 0, 1) := by decide +kernel
theorem dX11_readStatement_133 : decode cX11_readStatement 133 = .ok (.getfield 138, 3) := by decide +kernel
theorem dX11_readStatement_136 : decode cX11_readStatement 136 = .ok (.iastore, 1) := by decide +kernel
theorem dX11_readStatement_137 : decode cX11_readStatement 137 = .ok (.aload_n 0, 1) := by decide +kernel
theorem dX11_readStatement_138 : decode cX11_readStatement 138 = .ok (.getfield 19, 3) := by decide +kernel
theorem dX11_readStatement_141 : decode cX11_readStatement 141 = .ok (.iload_n 1, 1) := by decide +kernel
theorem dX11_readStatement_142 : decode cX11_readStatement 142 = .ok (.iconst 0, 1) := by decide +kernel
theorem dX11_readStatement_143 : decode cX11_readStatement 143 = .ok (.iastore, 1) := by decide +kernel
theorem dX11_readStatement_144 : decode cX11_readStatement 144 = .ok (.aload_n 0, 1) := by decide +kernel
theorem dX11_readStatement_145 : decode cX11_readStatement 145 = .ok (.invokevirtual 141, 3) := by decide +kernel
theorem dX11_readStatement_148 : decode cX11_readStatement 148 = .ok (.aload_n 0, 1) := by decide +kernel
theorem dX11_readStatement_149 : decode cX11_readStatement 149 = .ok (.invokevirtual 108, 3) := by decide +kernel
theorem dX11_readStatement_152 : decode cX11_readStatement 152 = .ok (.bipush 64, 2) := by decide +kernel
theorem dX11_readStatement_154 : decode cX11_readStatement 154 = .ok (.if_icmp .eq 5, 3) := by decide +kernel
theorem dX11_readStatement_157 : decode cX11_readStatement 157 = .ok (.iconst 1, 1) := by decide +kernel
theorem dX11_readStatement_158 : decode cX11_readStatement 158 = .ok (.ireturn, 1) := by decide +kernel
theorem dX11_readStatement_159 : decode cX11_readStatement 159 = .ok (.aload_n 0, 1) := by decide +kernel
theorem dX11_readStatement_160 : decode cX11_readStatement 160 = .ok (.dup, 1) := by decide +kernel
theorem dX11_readStatement_161 : decode cX11_readStatement 161 = .ok (.getfield 102, 3) := by decide +kernel
theorem dX11_readStatement_164 : decode cX11_readStatement 164 = .ok (.iconst 1, 1) := by decide +kernel
theorem dX11_readStatement_165 : decode cX11_readStatement 165 = .ok (.iadd, 1) := by decide +kernel
theorem dX11_readStatement_166 : decode cX11_readStatement 166 = .ok (.putfield 102, 3) := by decide +kernel
theorem dX11_readStatement_169 : decode cX11_readStatement 169 = .ok (.aload_n 0, 1) := by decide +kernel
theorem dX11_readStatement_170 : decode cX11_readStatement 170 = .ok (.invokevirtual 141, 3) := by decide +kernel
theorem dX11_readStatement_173 : decode cX11_readStatement 173 = .ok (.aload_n 0, 1) := by decide +kernel
theorem dX11_readStatement_174 : decode cX11_readStatement 174 = .ok (.bipush 60, 2) := by decide +kernel
theorem dX11_readStatement_176 : decode cX11_readStatement 176 = .ok (.invokevirtual 147, 3) := by decide +kernel
theorem dX11_readStatement_179 : decode cX11_readStatement 179 = .ok (.ifCond .ne 5, 3) := by decide +kernel
theorem dX11_readStatement_182 : decode cX11_readStatement 182 = .ok (.iconst 0, 1) := by decide +kernel
theorem dX11_readStatement_183 : decode cX11_readStatement 183 = .ok (.ireturn, 1) := by decide +kernel
theorem dX11_readStatement_184 : decode cX11_readStatement 184 = .ok (.aload_n 0, 1) := by decide +kernel
theorem dX11_readStatement_185 : decode cX11_readStatement 185 = .ok (.getfield 19, 3) := by decide +kernel
theorem dX11_readStatement_188 : decode cX11_readStatement 188 = .ok (.iload_n 1, 1) := by decide +kernel
theorem dX11_readStatement_189 : decode cX11_readStatement 189 = .ok (.aload_n 0, 1) := by decide +kernel
theorem dX11_readStatement_190 : decode cX11_readStatement 190 = .ok (.getfield 138, 3) := by decide +kernel
theorem dX11_readStatement_193 : decode cX11_readStatement 193 = .ok (.iastore, 1) := by decide +kernel
theorem dX11_readStatement_194 : decode cX11_readStatement 194 = .ok (.aload_n 0, 1) := by decide +kernel
theorem dX11_readStatement_195 : decode cX11_readStatement 195 = .ok (.invokevirtual 141, 3) := by decide +kernel
theorem dX11_readStatement_198 : decode cX11_readStatement 198 = .ok (.iconst 1, 1) := by decide +kernel
theorem dX11_readStatement_199 : decode cX11_readStatement 199 = .ok (.ireturn, 1) := by decide +kernel
theorem dX11_rules_0 : decode cX11_rules 0 = .ok (.aload_n 0, 1) := by decide +kernel
theorem dX11_rules_1 : decode cX11_rules 1 = .ok (.iconst 0, 1) := by decide +kernel
theorem dX11_rules_2 : decode cX11_rules 2 = .ok (.putfield 84, 3) := by decide +kernel
theorem dX11_rules_5 : decode cX11_rules 5 = .ok (.aload_n 0, 1) := by decide +kernel
theorem dX11_rules_6 : decode cX11_rules 6 = .ok (.aload_n 0, 1) := by decide +kernel
theorem dX11_rules_7 : decode cX11_rules 7 = .ok (.getfield 95, 3) := by decide +kernel
theorem dX11_rules_10 : decode cX11_rules 10 = .ok (.putfield 105, 3) := by decide +kernel
theorem dX11_rules_13 : decode cX11_rules 13 = .ok (.aload_n 0, 1) := by decide +kernel
theorem dX11_rules_14 : decode cX11_rules 14 = .ok (.iconst 0, 1) := by decide +kernel
theorem dX11_rules_15 : decode cX11_rules 15 = .ok (.putfield 95, 3) := by decide +kernel
theorem dX11_rules_18 : decode cX11_rules 18 = .ok (.aload_n 0, 1) := by decide +kernel
theorem dX11_rules_19 : decode cX11_rules 19 = .ok (.iconst 0, 1) := by decide +kernel
theorem dX11_rules_20 : decode cX11_rules 20 = .ok (.putfield 102, 3) := by decide +kernel
theorem dX11_rules_23 : decode cX11_rules 23 = .ok (.aload_n 0, 1) := by decide +kernel
theorem dX11_rules_24 : decode cX11_rules 24 = .ok (.iconst 0, 1) := by decide +kernel
theorem dX11_rules_25 : decode cX11_rules 25 = .ok (.putfield 112, 3) := by decide +kernel
theorem dX11_rules_28 : decode cX11_rules 28 = .ok (.aload_n 0, 1) := by decide +kernel
theorem dX11_rules_29 : decode cX11_rules 29 = .ok (.iconst 0, 1) := by decide +kernel
theorem dX11_rules_30 : decode cX11_rules 30 = .ok (.putfield 115, 3) := by decide +kernel
theorem dX11_rules_33 : decode cX11_rules 33 = .ok (.aload_n 0, 1) := by decide +kernel
theorem dX11_rules_34 : decode cX11_rules 34 = .ok (.getfield 151, 3) := by decide +kernel
theorem dX11_rules_37 : decode cX11_rules 37 = .ok (.istore_n 1, 1) := by decide +kernel
theorem dX11_rules_38 : decode cX11_rules 38 = .ok (.iconst 1, 1) := by decide +kernel
theorem dX11_rules_39 : decode cX11_rules 39 = .ok (.istore_n 2, 1) := by decide +kernel
theorem dX11_rules_40 : decode cX11_rules 40 = .ok (.iload_n 2, 1) := by decide +kernel
theorem dX11_rules_41 : decode cX11_rules 41 = .ok (.ifCond .eq 48, 3) := by decide +kernel
theorem dX11_rules_44 : decode cX11_rules 44 = .ok (.aload_n 0, 1) := by decide +kernel
theorem dX11_rules_45 : decode cX11_rules 45 = .ok (.iload_n 1, 1) := by decide +kernel
theorem dX11_rules_46 : decode cX11_rules 46 = .ok (.invokevirtual 154, 3) := by decide +kernel
theorem dX11_rules_49 : decode cX11_rules 49 = .ok (.ifCond .ne 5, 3) := by decide +kernel
theorem dX11_rules_52 : decode cX11_rules 52 = .ok (.iconst (-1), 1) := by decide +kernel
theorem dX11_rules_53 : decode cX11_rules 53 = .ok (.ireturn, 1) := by decide +kernel
theorem dX11_rules_54 : decode cX11_rules 54 = .ok (.iinc 1 1, 3) := by decide +kernel
theorem dX11_rules_57 : decode cX11_rules 57 = .ok (.aload_n 0, 1) := by decide +kernel
theorem dX11_rules_58 : decode cX11_rules 58 = .ok (.invokevirtual 108, 3) := by decide +kernel
theorem dX11_rules_61 : decode cX11_rules 61 = .ok (.bipush 44, 2) := by decide +kernel
theorem dX11_rules_63 : decode cX11_rules 63 = .ok (.if_icmp .ne 7, 3) := by decide +kernel
theorem dX11_rules_66 : decode cX11_rules 66 = .ok (.iconst 1, 1) := by decide +kernel
theorem dX11_rules_67 : decode cX11_rules 67 = .ok (.goto 4, 3) := by decide +kernel
theorem dX11_rules_70 : decode cX11_rules 70 = .ok (.iconst 0, 1) := by decide +kernel
theorem dX11_rules_71 : decode cX11_rules 71 = .ok (.istore_n 2, 1) := by decide +kernel
theorem dX11_rules_72 : decode cX11_rules 72 = .ok (.iload_n 2, 1) := by decide +kernel
theorem dX11_rules_73 : decode cX11_rules 73 = .ok (.ifCond .eq (-33), 3) := by decide +kernel
theorem dX11_rules_76 : decode cX11_rules 76 = .ok (.aload_n 0, 1) := by decide +kernel
theorem dX11_rules_77 : decode cX11_rules 77 = .ok (.dup, 1) := by decide +kernel
theorem dX11_rules_78 : decode cX11_rules 78 = .ok (.getfield 102, 3) := by decide +kernel
theorem dX11_rules_81 : decode cX11_rules 81 = .ok (.iconst 1, 1) := by decide +kernel
theorem dX11_rules_82 : decode cX11_rules 82 = .ok (.iadd, 1) := by decide +kernel
theorem dX11_rules_83 : decode cX11_rules 83 = .ok (.putfield 102, 3) := by decide +kernel
theorem dX11_rules_86 : decode cX11_rules 86 = .ok (.goto (-46), 3) := by decide +kernel
theorem dX11_rules_89 : decode cX11_rules 89 = .ok (.aload_n 0, 1) := by decide +kernel
theorem dX11_rules_90 : decode cX11_rules 90 = .ok (.getfield 102, 3) := by decide +kernel
theorem dX11_rules_93 : decode cX11_rules 93 = .ok (.aload_n 0, 1) := by decide +kernel
theorem dX11_rules_94 : decode cX11_rules 94 = .ok (.getfield 105, 3) := by decide +kernel
theorem dX11_rules_97 : decode cX11_rules 97 = .ok (.if_icmp .ge 15, 3) := by decide +kernel
theorem dX11_rules_100 : decode cX11_rules 100 = .ok (.aload_n 0, 1) := by decide +kernel
theorem dX11_rules_101 : decode cX11_rules 101 = .ok (.iconst 1, 1) := by decide +kernel
theorem dX11_rules_102 : decode cX11_rules 102 = .ok (.aload_n 0, 1) := by decide +kernel
theorem dX11_rules_103 : decode cX11_rules 103 = .ok (.getfield 102, 3) := by decide +kernel
theorem dX11_rules_106 : decode cX11_rules 106 = .ok (.invokevirtual 133, 3) := by decide +kernel
theorem dX11_rules_109 : decode cX11_rules 109 = .ok (.pop, 1) := by decide +kernel
theorem dX11_rules_110 : decode cX11_rules 110 = .ok (.iconst (-1), 1) := by decide +kernel
theorem dX11_rules_111 : decode cX11_rules 111 = .ok (.ireturn, 1) := by decide +kernel
theorem dX11_rules_112 : decode cX11_rules 112 = .ok (.iload_n 1, 1) := by decide +kernel
theorem dX11_rules_113 : decode cX11_rules 113 = .ok (.aload_n 0, 1) := by decide +kernel
theorem dX11_rules_114 : decode cX11_rules 114 = .ok (.getfield 151, 3) := by decide +kernel
theorem dX11_rules_117 : decode cX11_rules 117 = .ok (.isub, 1) := by decide +kernel
theorem dX11_rules_118 : decode cX11_rules 118 = .ok (.istore_n 3, 1) := by decide +kernel
theorem dX11_rules_119 : decode cX11_rules 119 = .ok (.aload_n 0, 1) := by decide +kernel
theorem dX11_rules_120 : decode cX11_rules 120 = .ok (.iload_n 1, 1) := by decide +kernel
theorem dX11_rules_121 : decode cX11_rules 121 = .ok (.putfield 151, 3) := by decide +kernel
theorem dX11_rules_124 : decode cX11_rules 124 = .ok (.iload_n 3, 1) := by decide +kernel
theorem dX11_rules_125 : decode cX11_rules 125 = .ok (.ireturn, 1) := by decide +kernel
theorem dX11_fault_0 : decode cX11_fault 0 = .ok (.aload_n 0, 1) := by decide +kernel
theorem dX11_fault_1 : decode cX11_fault 1 = .ok (.iconst 0, 1) := by decide +kernel
theorem dX11_fault_2 : decode cX11_fault 2 = .ok (.putfield 84, 3) := by decide +kernel
theorem dX11_fault_5 : decode cX11_fault 5 = .ok (.iload_n 1, 1) := by decide +kernel
theorem dX11_fault_6 : decode cX11_fault 6 = .ok (.ifCond .ne 10, 3) := by decide +kernel
theorem dX11_fault_9 : decode cX11_fault 9 = .ok (.aload_n 0, 1) := by decide +kernel
theorem dX11_fault_10 : decode cX11_fault 10 = .ok (.getfield 112, 3) := by decide +kernel
theorem dX11_fault_13 : decode cX11_fault 13 = .ok (.goto 16, 3) := by decide +kernel
theorem dX11_fault_16 : decode cX11_fault 16 = .ok (.iload_n 1, 1) := by decide +kernel
theorem dX11_fault_17 : decode cX11_fault 17 = .ok (.iconst 1, 1) := by decide +kernel
theorem dX11_fault_18 : decode cX11_fault 18 = .ok (.if_icmp .ne 10, 3) := by decide +kernel
theorem dX11_fault_21 : decode cX11_fault 21 = .ok (.aload_n 0, 1) := by decide +kernel
theorem dX11_fault_22 : decode cX11_fault 22 = .ok (.getfield 115, 3) := by decide +kernel
theorem dX11_fault_25 : decode cX11_fault 25 = .ok (.goto 4, 3) := by decide +kernel
theorem dX11_fault_28 : decode cX11_fault 28 = .ok (.iconst (-1), 1) := by decide +kernel
theorem dX11_fault_29 : decode cX11_fault 29 = .ok (.ireturn, 1) := by decide +kernel
theorem dX11_ruleOf_0 : decode cX11_ruleOf 0 = .ok (.iconst (-1), 1) := by decide +kernel
theorem dX11_ruleOf_1 : decode cX11_ruleOf 1 = .ok (.istore_n 3, 1) := by decide +kernel
theorem dX11_ruleOf_2 : decode cX11_ruleOf 2 = .ok (.iconst 0, 1) := by decide +kernel
theorem dX11_ruleOf_3 : decode cX11_ruleOf 3 = .ok (.istore 4, 2) := by decide +kernel
theorem dX11_ruleOf_5 : decode cX11_ruleOf 5 = .ok (.iload 4, 2) := by decide +kernel
theorem dX11_ruleOf_7 : decode cX11_ruleOf 7 = .ok (.aload_n 0, 1) := by decide +kernel
theorem dX11_ruleOf_8 : decode cX11_ruleOf 8 = .ok (.getfield 151, 3) := by decide +kernel
theorem dX11_ruleOf_11 : decode cX11_ruleOf 11 = .ok (.if_icmp .ge 55, 3) := by decide +kernel
theorem dX11_ruleOf_14 : decode cX11_ruleOf 14 = .ok (.aload_n 0, 1) := by decide +kernel
theorem dX11_ruleOf_15 : decode cX11_ruleOf 15 = .ok (.getfield 13, 3) := by decide +kernel
theorem dX11_ruleOf_18 : decode cX11_ruleOf 18 = .ok (.iload 4, 2) := by decide +kernel
theorem dX11_ruleOf_20 : decode cX11_ruleOf 20 = .ok (.iaload, 1) := by decide +kernel
theorem dX11_ruleOf_21 : decode cX11_ruleOf 21 = .ok (.iload_n 1, 1) := by decide +kernel
theorem dX11_ruleOf_22 : decode cX11_ruleOf 22 = .ok (.if_icmp .ne 38, 3) := by decide +kernel
theorem dX11_ruleOf_25 : decode cX11_ruleOf 25 = .ok (.aload_n 0, 1) := by decide +kernel
theorem dX11_ruleOf_26 : decode cX11_ruleOf 26 = .ok (.getfield 19, 3) := by decide +kernel
