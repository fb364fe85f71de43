theorem dX11_ruleOf_29 : decode cX11_ruleOf 29 = .ok (.iload 4, 2) := by decide +kernel
theorem dX11_ruleOf_31 : decode cX11_ruleOf 31 = .ok (.iaload, 1) := by decide +kernel
theorem dX11_ruleOf_32 : decode cX11_ruleOf 32 = .ok (.iload_n 2, 1) := by decide +kernel
theorem dX11_ruleOf_33 : decode cX11_ruleOf 33 = .ok (.if_icmp .gt 27, 3) := by decide +kernel
theorem dX11_ruleOf_36 : decode cX11_ruleOf 36 = .ok (.iload_n 3, 1) := by decide +kernel
theorem dX11_ruleOf_37 : decode cX11_ruleOf 37 = .ok (.iconst (-1), 1) := by decide +kernel
theorem dX11_ruleOf_38 : decode cX11_ruleOf 38 = .ok (.if_icmp .eq 19, 3) := by decide +kernel
theorem dX11_ruleOf_41 : decode cX11_ruleOf 41 = .ok (.aload_n 0, 1) := by decide +kernel
theorem dX11_ruleOf_42 : decode cX11_ruleOf 42 = .ok (.getfield 19, 3) := by decide +kernel
theorem dX11_ruleOf_45 : decode cX11_ruleOf 45 = .ok (.iload 4, 2) := by decide +kernel
theorem dX11_ruleOf_47 : decode cX11_ruleOf 47 = .ok (.iaload, 1) := by decide +kernel
theorem dX11_ruleOf_48 : decode cX11_ruleOf 48 = .ok (.aload_n 0, 1) := by decide +kernel
theorem dX11_ruleOf_49 : decode cX11_ruleOf 49 = .ok (.getfield 19, 3) := by decide +kernel
theorem dX11_ruleOf_52 : decode cX11_ruleOf 52 = .ok (.iload_n 3, 1) := by decide +kernel
theorem dX11_ruleOf_53 : decode cX11_ruleOf 53 = .ok (.iaload, 1) := by decide +kernel
theorem dX11_ruleOf_54 : decode cX11_ruleOf 54 = .ok (.if_icmp .lt 6, 3) := by decide +kernel
theorem dX11_ruleOf_57 : decode cX11_ruleOf 57 = .ok (.iload 4, 2) := by decide +kernel
theorem dX11_ruleOf_59 : decode cX11_ruleOf 59 = .ok (.istore_n 3, 1) := by decide +kernel
theorem dX11_ruleOf_60 : decode cX11_ruleOf 60 = .ok (.iinc 4 1, 3) := by decide +kernel
theorem dX11_ruleOf_63 : decode cX11_ruleOf 63 = .ok (.goto (-58), 3) := by decide +kernel
theorem dX11_ruleOf_66 : decode cX11_ruleOf 66 = .ok (.iload_n 3, 1) := by decide +kernel
theorem dX11_ruleOf_67 : decode cX11_ruleOf 67 = .ok (.iconst (-1), 1) := by decide +kernel
theorem dX11_ruleOf_68 : decode cX11_ruleOf 68 = .ok (.if_icmp .eq 10, 3) := by decide +kernel
theorem dX11_ruleOf_71 : decode cX11_ruleOf 71 = .ok (.aload_n 0, 1) := by decide +kernel
theorem dX11_ruleOf_72 : decode cX11_ruleOf 72 = .ok (.getfield 16, 3) := by decide +kernel
theorem dX11_ruleOf_75 : decode cX11_ruleOf 75 = .ok (.iload_n 3, 1) := by decide +kernel
theorem dX11_ruleOf_76 : decode cX11_ruleOf 76 = .ok (.iaload, 1) := by decide +kernel
theorem dX11_ruleOf_77 : decode cX11_ruleOf 77 = .ok (.ireturn, 1) := by decide +kernel
theorem dX11_ruleOf_78 : decode cX11_ruleOf 78 = .ok (.iload_n 1, 1) := by decide +kernel
theorem dX11_ruleOf_79 : decode cX11_ruleOf 79 = .ok (.tableswitch 56 0 7 #[45, 56, 56, 56, 56, 48, 50, 53], 45) := by decide +kernel
theorem dX11_ruleOf_124 : decode cX11_ruleOf 124 = .ok (.bipush 10, 2) := by decide +kernel
theorem dX11_ruleOf_126 : decode cX11_ruleOf 126 = .ok (.ireturn, 1) := by decide +kernel
theorem dX11_ruleOf_127 : decode cX11_ruleOf 127 = .ok (.iconst 3, 1) := by decide +kernel
theorem dX11_ruleOf_128 : decode cX11_ruleOf 128 = .ok (.ireturn, 1) := by decide +kernel
theorem dX11_ruleOf_129 : decode cX11_ruleOf 129 = .ok (.bipush 6, 2) := by decide +kernel
theorem dX11_ruleOf_131 : decode cX11_ruleOf 131 = .ok (.ireturn, 1) := by decide +kernel
theorem dX11_ruleOf_132 : decode cX11_ruleOf 132 = .ok (.bipush 50, 2) := by decide +kernel
theorem dX11_ruleOf_134 : decode cX11_ruleOf 134 = .ok (.ireturn, 1) := by decide +kernel
theorem dX11_ruleOf_135 : decode cX11_ruleOf 135 = .ok (.iconst 0, 1) := by decide +kernel
theorem dX11_ruleOf_136 : decode cX11_ruleOf 136 = .ok (.ireturn, 1) := by decide +kernel
theorem dX11_rule_0 : decode cX11_rule 0 = .ok (.aload_n 0, 1) := by decide +kernel
theorem dX11_rule_1 : decode cX11_rule 1 = .ok (.iconst 0, 1) := by decide +kernel
theorem dX11_rule_2 : decode cX11_rule 2 = .ok (.putfield 84, 3) := by decide +kernel
theorem dX11_rule_5 : decode cX11_rule 5 = .ok (.iload_n 1, 1) := by decide +kernel
theorem dX11_rule_6 : decode cX11_rule 6 = .ok (.iconst 0, 1) := by decide +kernel
theorem dX11_rule_7 : decode cX11_rule 7 = .ok (.bipush 7, 2) := by decide +kernel
theorem dX11_rule_9 : decode cX11_rule 9 = .ok (.invokestatic 91, 3) := by decide +kernel
theorem dX11_rule_12 : decode cX11_rule 12 = .ok (.ifCond .eq 22, 3) := by decide +kernel
theorem dX11_rule_15 : decode cX11_rule 15 = .ok (.iload_n 2, 1) := by decide +kernel
theorem dX11_rule_16 : decode cX11_rule 16 = .ok (.iconst 0, 1) := by decide +kernel
theorem dX11_rule_17 : decode cX11_rule 17 = .ok (.bipush 60, 2) := by decide +kernel
theorem dX11_rule_19 : decode cX11_rule 19 = .ok (.invokestatic 91, 3) := by decide +kernel
theorem dX11_rule_22 : decode cX11_rule 22 = .ok (.ifCond .eq 12, 3) := by decide +kernel
theorem dX11_rule_25 : decode cX11_rule 25 = .ok (.aload_n 0, 1) := by decide +kernel
theorem dX11_rule_26 : decode cX11_rule 26 = .ok (.iload_n 1, 1) := by decide +kernel
theorem dX11_rule_27 : decode cX11_rule 27 = .ok (.iload_n 2, 1) := by decide +kernel
theorem dX11_rule_28 : decode cX11_rule 28 = .ok (.invokevirtual 157, 3) := by decide +kernel
theorem dX11_rule_31 : decode cX11_rule 31 = .ok (.goto 4, 3) := by decide +kernel
theorem dX11_rule_34 : decode cX11_rule 34 = .ok (.iconst (-1), 1) := by decide +kernel
theorem dX11_rule_35 : decode cX11_rule 35 = .ok (.ireturn, 1) := by decide +kernel
theorem dX11_enter_0 : decode cX11_enter 0 = .ok (.aload_n 0, 1) := by decide +kernel
theorem dX11_enter_1 : decode cX11_enter 1 = .ok (.getfield 59, 3) := by decide +kernel
theorem dX11_enter_4 : decode cX11_enter 4 = .ok (.aload_n 0, 1) := by decide +kernel
theorem dX11_enter_5 : decode cX11_enter 5 = .ok (.getfield 160, 3) := by decide +kernel
theorem dX11_enter_8 : decode cX11_enter 8 = .ok (.iload_n 1, 1) := by decide +kernel
theorem dX11_enter_9 : decode cX11_enter 9 = .ok (.iastore, 1) := by decide +kernel
theorem dX11_enter_10 : decode cX11_enter 10 = .ok (.aload_n 0, 1) := by decide +kernel
theorem dX11_enter_11 : decode cX11_enter 11 = .ok (.getfield 62, 3) := by decide +kernel
theorem dX11_enter_14 : decode cX11_enter 14 = .ok (.aload_n 0, 1) := by decide +kernel
theorem dX11_enter_15 : decode cX11_enter 15 = .ok (.getfield 160, 3) := by decide +kernel
theorem dX11_enter_18 : decode cX11_enter 18 = .ok (.aload_n 0, 1) := by decide +kernel
theorem dX11_enter_19 : decode cX11_enter 19 = .ok (.getfield 163, 3) := by decide +kernel
theorem dX11_enter_22 : decode cX11_enter 22 = .ok (.iastore, 1) := by decide +kernel
theorem dX11_enter_23 : decode cX11_enter 23 = .ok (.aload_n 0, 1) := by decide +kernel
theorem dX11_enter_24 : decode cX11_enter 24 = .ok (.getfield 65, 3) := by decide +kernel
theorem dX11_enter_27 : decode cX11_enter 27 = .ok (.aload_n 0, 1) := by decide +kernel
theorem dX11_enter_28 : decode cX11_enter 28 = .ok (.getfield 160, 3) := by decide +kernel
theorem dX11_enter_31 : decode cX11_enter 31 = .ok (.iload_n 2, 1) := by decide +kernel
theorem dX11_enter_32 : decode cX11_enter 32 = .ok (.iastore, 1) := by decide +kernel
theorem dX11_enter_33 : decode cX11_enter 33 = .ok (.aload_n 0, 1) := by decide +kernel
theorem dX11_enter_34 : decode cX11_enter 34 = .ok (.getfield 68, 3) := by decide +kernel
theorem dX11_enter_37 : decode cX11_enter 37 = .ok (.aload_n 0, 1) := by decide +kernel
theorem dX11_enter_38 : decode cX11_enter 38 = .ok (.getfield 160, 3) := by decide +kernel
theorem dX11_enter_41 : decode cX11_enter 41 = .ok (.lload_n 3, 1) := by decide +kernel
theorem dX11_enter_42 : decode cX11_enter 42 = .ok (.lastore, 1) := by decide +kernel
theorem dX11_enter_43 : decode cX11_enter 43 = .ok (.aload_n 0, 1) := by decide +kernel
theorem dX11_enter_44 : decode cX11_enter 44 = .ok (.getfield 72, 3) := by decide +kernel
theorem dX11_enter_47 : decode cX11_enter 47 = .ok (.aload_n 0, 1) := by decide +kernel
theorem dX11_enter_48 : decode cX11_enter 48 = .ok (.getfield 160, 3) := by decide +kernel
theorem dX11_enter_51 : decode cX11_enter 51 = .ok (.iconst (-1), 1) := by decide +kernel
theorem dX11_enter_52 : decode cX11_enter 52 = .ok (.iastore, 1) := by decide +kernel
theorem dX11_enter_53 : decode cX11_enter 53 = .ok (.aload_n 0, 1) := by decide +kernel
theorem dX11_enter_54 : decode cX11_enter 54 = .ok (.dup, 1) := by decide +kernel
theorem dX11_enter_55 : decode cX11_enter 55 = .ok (.getfield 160, 3) := by decide +kernel
theorem dX11_enter_58 : decode cX11_enter 58 = .ok (.iconst 1, 1) := by decide +kernel
theorem dX11_enter_59 : decode cX11_enter 59 = .ok (.iadd, 1) := by decide +kernel
theorem dX11_enter_60 : decode cX11_enter 60 = .ok (.putfield 160, 3) := by decide +kernel
theorem dX11_enter_63 : decode cX11_enter 63 = .ok (.return_, 1) := by decide +kernel
theorem dX11_balanceOf_0 : decode cX11_balanceOf 0 = .ok (.lconst 0, 1) := by decide +kernel
theorem dX11_balanceOf_1 : decode cX11_balanceOf 1 = .ok (.lstore_n 2, 1) := by decide +kernel
theorem dX11_balanceOf_2 : decode cX11_balanceOf 2 = .ok (.iconst 0, 1) := by decide +kernel
theorem dX11_balanceOf_3 : decode cX11_balanceOf 3 = .ok (.istore 4, 2) := by decide +kernel
theorem dX11_balanceOf_5 : decode cX11_balanceOf 5 = .ok (.iload 4, 2) := by decide +kernel
theorem dX11_balanceOf_7 : decode cX11_balanceOf 7 = .ok (.aload_n 0, 1) := by decide +kernel
theorem dX11_balanceOf_8 : decode cX11_balanceOf 8 = .ok (.getfield 160, 3) := by decide +kernel
theorem dX11_balanceOf_11 : decode cX11_balanceOf 11 = .ok (.if_icmp .ge 41, 3) := by decide +kernel
theorem dX11_balanceOf_14 : decode cX11_balanceOf 14 = .ok (.aload_n 0, 1) := by decide +kernel
theorem dX11_balanceOf_15 : decode cX11_balanceOf 15 = .ok (.getfield 59, 3) := by decide +kernel
theorem dX11_balanceOf_18 : decode cX11_balanceOf 18 = .ok (.iload 4, 2) := by decide +kernel
theorem dX11_balanceOf_20 : decode cX11_balanceOf 20 = .ok (.iaload, 1) := by decide +kernel
theorem dX11_balanceOf_21 : decode cX11_balanceOf 21 = .ok (.iload_n 1, 1) := by decide +kernel
theorem dX11_balanceOf_22 : decode cX11_balanceOf 22 = .ok (.if_icmp .ne 24, 3) := by decide +kernel
theorem dX11_balanceOf_25 : decode cX11_balanceOf 25 = .ok (.aload_n 0, 1) := by decide +kernel
theorem dX11_balanceOf_26 : decode cX11_balanceOf 26 = .ok (.getfield 72, 3) := by decide +kernel
theorem dX11_balanceOf_29 : decode cX11_balanceOf 29 = .ok (.iload 4, 2) := by decide +kernel
theorem dX11_balanceOf_31 : decode cX11_balanceOf 31 = .ok (.iaload, 1) := by decide +kernel
theorem dX11_balanceOf_32 : decode cX11_balanceOf 32 = .ok (.iconst (-1), 1) := by decide +kernel
theorem dX11_balanceOf_33 : decode cX11_balanceOf 33 = .ok (.if_icmp .ne 13, 3) := by decide +kernel
theorem dX11_balanceOf_36 : decode cX11_balanceOf 36 = .ok (.lload_n 2, 1) := by decide +kernel
theorem dX11_balanceOf_37 : decode cX11_balanceOf 37 = .ok (.aload_n 0, 1) := by decide +kernel
theorem dX11_balanceOf_38 : decode cX11_balanceOf 38 = .ok (.getfield 68, 3) := by decide +kernel
theorem dX11_balanceOf_41 : decode cX11_balanceOf 41 = .ok (.iload 4, 2) := by decide +kernel
theorem dX11_balanceOf_43 : decode cX11_balanceOf 43 = .ok (.laload, 1) := by decide +kernel
theorem dX11_balanceOf_44 : decode cX11_balanceOf 44 = .ok (.ladd, 1) := by decide +kernel
theorem dX11_balanceOf_45 : decode cX11_balanceOf 45 = .ok (.lstore_n 2, 1) := by decide +kernel
theorem dX11_balanceOf_46 : decode cX11_balanceOf 46 = .ok (.iinc 4 1, 3) := by decide +kernel
theorem dX11_balanceOf_49 : decode cX11_balanceOf 49 = .ok (.goto (-44), 3) := by decide +kernel
theorem dX11_balanceOf_52 : decode cX11_balanceOf 52 = .ok (.lload_n 2, 1) := by decide +kernel
theorem dX11_balanceOf_53 : decode cX11_balanceOf 53 = .ok (.lreturn, 1) := by decide +kernel
theorem dX11_entry_0 : decode cX11_entry 0 = .ok (.aload_n 0, 1) := by decide +kernel
theorem dX11_entry_1 : decode cX11_entry 1 = .ok (.iconst 0, 1) := by decide +kernel
theorem dX11_entry_2 : decode cX11_entry 2 = .ok (.putfield 84, 3) := by decide +kernel
theorem dX11_entry_5 : decode cX11_entry 5 = .ok (.iload_n 1, 1) := by decide +kernel
theorem dX11_entry_6 : decode cX11_entry 6 = .ok (.iconst 0, 1) := by decide +kernel
theorem dX11_entry_7 : decode cX11_entry 7 = .ok (.aload_n 0, 1) := by decide +kernel
theorem dX11_entry_8 : decode cX11_entry 8 = .ok (.getfield 160, 3) := by decide +kernel
theorem dX11_entry_11 : decode cX11_entry 11 = .ok (.iconst 1, 1) := by decide +kernel
theorem dX11_entry_12 : decode cX11_entry 12 = .ok (.isub, 1) := by decide +kernel
theorem dX11_entry_13 : decode cX11_entry 13 = .ok (.invokestatic 91, 3) := by decide +kernel
theorem dX11_entry_16 : decode cX11_entry 16 = .ok (.ifCond .eq 12, 3) := by decide +kernel
theorem dX11_entry_19 : decode cX11_entry 19 = .ok (.iload_n 2, 1) := by decide +kernel
theorem dX11_entry_20 : decode cX11_entry 20 = .ok (.iconst 0, 1) := by decide +kernel
theorem dX11_entry_21 : decode cX11_entry 21 = .ok (.iconst 4, 1) := by decide +kernel
theorem dX11_entry_22 : decode cX11_entry 22 = .ok (.invokestatic 91, 3) := by decide +kernel
theorem dX11_entry_25 : decode cX11_entry 25 = .ok (.ifCond .ne 10, 3) := by decide +kernel
theorem dX11_entry_28 : decode cX11_entry 28 = .ok (.aload_n 0, 1) := by decide +kernel
theorem dX11_entry_29 : decode cX11_entry 29 = .ok (.iconst 1, 1) := by decide +kernel
theorem dX11_entry_30 : decode cX11_entry 30 = .ok (.putfield 84, 3) := by decide +kernel
theorem dX11_entry_33 : decode cX11_entry 33 = .ok (.lconst 0, 1) := by decide +kernel
theorem dX11_entry_34 : decode cX11_entry 34 = .ok (.lreturn, 1) := by decide +kernel
theorem dX11_entry_35 : decode cX11_entry 35 = .ok (.iload_n 2, 1) := by decide +kernel
theorem dX11_entry_36 : decode cX11_entry 36 = .ok (.tableswitch 63 0 3 #[32, 40, 48, 56], 32) := by decide +kernel
theorem dX11_entry_68 : decode cX11_entry 68 = .ok (.aload_n 0, 1) := by decide +kernel
theorem dX11_entry_69 : decode cX11_entry 69 = .ok (.getfield 59, 3) := by decide +kernel
theorem dX11_entry_72 : decode cX11_entry 72 = .ok (.iload_n 1, 1) := by decide +kernel
theorem dX11_entry_73 : decode cX11_entry 73 = .ok (.iaload, 1) := by decide +kernel
theorem dX11_entry_74 : decode cX11_entry 74 = .ok (.i2l, 1) := by decide +kernel
theorem dX11_entry_75 : decode cX11_entry 75 = .ok (.lreturn, 1) := by decide +kernel
theorem dX11_entry_76 : decode cX11_entry 76 = .ok (.aload_n 0, 1) := by decide +kernel
theorem dX11_entry_77 : decode cX11_entry 77 = .ok (.getfield 62, 3) := by decide +kernel
theorem dX11_entry_80 : decode cX11_entry 80 = .ok (.iload_n 1, 1) := by decide +kernel
theorem dX11_entry_81 : decode cX11_entry 81 = .ok (.iaload, 1) := by decide +kernel
theorem dX11_entry_82 : decode cX11_entry 82 = .ok (.i2l, 1) := by decide +kernel
theorem dX11_entry_83 : decode cX11_entry 83 = .ok (.lreturn, 1) := by decide +kernel
theorem dX11_entry_84 : decode cX11_entry 84 = .ok (.aload_n 0, 1) := by decide +kernel
theorem dX11_entry_85 : decode cX11_entry 85 = .ok (.getfield 65, 3) := by decide +kernel
theorem dX11_entry_88 : decode cX11_entry 88 = .ok (.iload_n 1, 1) := by decide +kernel
theorem dX11_entry_89 : decode cX11_entry 89 = .ok (.iaload, 1) := by decide +kernel
theorem dX11_entry_90 : decode cX11_entry 90 = .ok (.i2l, 1) := by decide +kernel
theorem dX11_entry_91 : decode cX11_entry 91 = .ok (.lreturn, 1) := by decide +kernel
theorem dX11_entry_92 : decode cX11_entry 92 = .ok (.aload_n 0, 1) := by decide +kernel
theorem dX11_entry_93 : decode cX11_entry 93 = .ok (.getfield 68, 3) := by decide +kernel
theorem dX11_entry_96 : decode cX11_entry 96 = .ok (.iload_n 1, 1) := by decide +kernel
theorem dX11_entry_97 : decode cX11_entry 97 = .ok (.laload, 1) := by decide +kernel
theorem dX11_entry_98 : decode cX11_entry 98 = .ok (.lreturn, 1) := by decide +kernel
theorem dX11_entry_99 : decode cX11_entry 99 = .ok (.aload_n 0, 1) := by decide +kernel
theorem dX11_entry_100 : decode cX11_entry 100 = .ok (.getfield 72, 3) := by decide +kernel
theorem dX11_entry_103 : decode cX11_entry 103 = .ok (.iload_n 1, 1) := by decide +kernel
theorem dX11_entry_104 : decode cX11_entry 104 = .ok (.iaload, 1) := by decide +kernel
theorem dX11_entry_105 : decode cX11_entry 105 = .ok (.i2l, 1) := by decide +kernel
theorem dX11_entry_106 : decode cX11_entry 106 = .ok (.lreturn, 1) := by decide +kernel
theorem dX11_strike_0 : decode cX11_strike 0 = .ok (.aload_n 0, 1) := by decide +kernel
theorem dX11_strike_1 : decode cX11_strike 1 = .ok (.iconst 0, 1) := by decide +kernel
theorem dX11_strike_2 : decode cX11_strike 2 = .ok (.putfield 84, 3) := by decide +kernel
theorem dX11_strike_5 : decode cX11_strike 5 = .ok (.iload_n 1, 1) := by decide +kernel
theorem dX11_strike_6 : decode cX11_strike 6 = .ok (.iconst 0, 1) := by decide +kernel
theorem dX11_strike_7 : decode cX11_strike 7 = .ok (.aload_n 0, 1) := by decide +kernel
theorem dX11_strike_8 : decode cX11_strike 8 = .ok (.getfield 160, 3) := by decide +kernel
theorem dX11_strike_11 : decode cX11_strike 11 = .ok (.iconst 1, 1) := by decide +kernel
theorem dX11_strike_12 : decode cX11_strike 12 = .ok (.isub, 1) := by decide +kernel
theorem dX11_strike_13 : decode cX11_strike 13 = .ok (.invokestatic 91, 3) := by decide +kernel
theorem dX11_strike_16 : decode cX11_strike 16 = .ok (.ifCond .eq 13, 3) := by decide +kernel
theorem dX11_strike_19 : decode cX11_strike 19 = .ok (.aload_n 0, 1) := by decide +kernel
theorem dX11_strike_20 : decode cX11_strike 20 = .ok (.getfield 72, 3) := by decide +kernel
theorem dX11_strike_23 : decode cX11_strike 23 = .ok (.iload_n 1, 1) := by decide +kernel
theorem dX11_strike_24 : decode cX11_strike 24 = .ok (.iaload, 1) := by decide +kernel
theorem dX11_strike_25 : decode cX11_strike 25 = .ok (.iconst (-1), 1) := by decide +kernel
theorem dX11_strike_26 : decode cX11_strike 26 = .ok (.if_icmp .eq 5, 3) := by decide +kernel
theorem dX11_strike_29 : decode cX11_strike 29 = .ok (.iconst 0, 1) := by decide +kernel
theorem dX11_strike_30 : decode cX11_strike 30 = .ok (.ireturn, 1) := by decide +kernel
theorem dX11_strike_31 : decode cX11_strike 31 = .ok (.aload_n 0, 1) := by decide +kernel
theorem dX11_strike_32 : decode cX11_strike 32 = .ok (.getfield 72, 3) := by decide +kernel
theorem dX11_strike_35 : decode cX11_strike 35 = .ok (.iload_n 1, 1) := by decide +kernel
theorem dX11_strike_36 : decode cX11_strike 36 = .ok (.aload_n 0, 1) := by decide +kernel
theorem dX11_strike_37 : decode cX11_strike 37 = .ok (.getfield 163, 3) := by decide +kernel
theorem dX11_strike_40 : decode cX11_strike 40 = .ok (.iastore, 1) := by decide +kernel
theorem dX11_strike_41 : decode cX11_strike 41 = .ok (.iconst 1, 1) := by decide +kernel
theorem dX11_strike_42 : decode cX11_strike 42 = .ok (.ireturn, 1) := by decide +kernel
theorem dX11_balance_0 : decode cX11_balance 0 = .ok (.aload_n 0, 1) := by decide +kernel
theorem dX11_balance_1 : decode cX11_balance 1 = .ok (.iconst 0, 1) := by decide +kernel
theorem dX11_balance_2 : decode cX11_balance 2 = .ok (.putfield 84, 3) := by decide +kernel
theorem dX11_balance_5 : decode cX11_balance 5 = .ok (.aload_n 0, 1) := by decide +kernel
theorem dX11_balance_6 : decode cX11_balance 6 = .ok (.iload_n 1, 1) := by decide +kernel
theorem dX11_balance_7 : decode cX11_balance 7 = .ok (.invokevirtual 166, 3) := by decide +kernel
theorem dX11_balance_10 : decode cX11_balance 10 = .ok (.ifCond .eq 23, 3) := by decide +kernel
theorem dX11_balance_13 : decode cX11_balance 13 = .ok (.iload_n 2, 1) := by decide +kernel
theorem dX11_balance_14 : decode cX11_balance 14 = .ok (.iconst 0, 1) := by decide +kernel
theorem dX11_balance_15 : decode cX11_balance 15 = .ok (.bipush 60, 2) := by decide +kernel
theorem dX11_balance_17 : decode cX11_balance 17 = .ok (.invokestatic 91, 3) := by decide +kernel
theorem dX11_balance_20 : decode cX11_balance 20 = .ok (.ifCond .eq 13, 3) := by decide +kernel
theorem dX11_balance_23 : decode cX11_balance 23 = .ok (.iload_n 3, 1) := by decide +kernel
theorem dX11_balance_24 : decode cX11_balance 24 = .ok (.iconst 0, 1) := by decide +kernel
theorem dX11_balance_25 : decode cX11_balance 25 = .ok (.bipush 60, 2) := by decide +kernel
theorem dX11_balance_27 : decode cX11_balance 27 = .ok (.invokestatic 91, 3) := by decide +kernel
theorem dX11_balance_30 : decode cX11_balance 30 = .ok (.ifCond .ne 10, 3) := by decide +kernel
theorem dX11_balance_33 : decode cX11_balance 33 = .ok (.aload_n 0, 1) := by decide +kernel
theorem dX11_balance_34 : decode cX11_balance 34 = .ok (.iconst 1, 1) := by decide +kernel
theorem dX11_balance_35 : decode cX11_balance 35 = .ok (.putfield 84, 3) := by decide +kernel
theorem dX11_balance_38 : decode cX11_balance 38 = .ok (.lconst 0, 1) := by decide +kernel
theorem dX11_balance_39 : decode cX11_balance 39 = .ok (.lreturn, 1) := by decide +kernel
theorem dX11_balance_40 : decode cX11_balance 40 = .ok (.lconst 0, 1) := by decide +kernel
theorem dX11_balance_41 : decode cX11_balance 41 = .ok (.lstore 4, 2) := by decide +kernel
theorem dX11_balance_43 : decode cX11_balance 43 = .ok (.iconst 0, 1) := by decide +kernel
theorem dX11_balance_44 : decode cX11_balance 44 = .ok (.istore 6, 2) := by decide +kernel
theorem dX11_balance_46 : decode cX11_balance 46 = .ok (.iload 6, 2) := by decide +kernel
theorem dX11_balance_48 : decode cX11_balance 48 = .ok (.aload_n 0, 1) := by decide +kernel
theorem dX11_balance_49 : decode cX11_balance 49 = .ok (.getfield 160, 3) := by decide +kernel
theorem dX11_balance_52 : decode cX11_balance 52 = .ok (.if_icmp .ge 65, 3) := by decide +kernel
theorem dX11_balance_55 : decode cX11_balance 55 = .ok (.aload_n 0, 1) := by decide +kernel
theorem dX11_balance_56 : decode cX11_balance 56 = .ok (.getfield 59, 3) := by decide +kernel
theorem dX11_balance_59 : decode cX11_balance 59 = .ok (.iload 6, 2) := by decide +kernel
theorem dX11_balance_61 : decode cX11_balance 61 = .ok (.iaload, 1) := by decide +kernel
theorem dX11_balance_62 : decode cX11_balance 62 = .ok (.iload_n 1, 1) := by decide +kernel
theorem dX11_balance_63 : decode cX11_balance 63 = .ok (.if_icmp .ne 48, 3) := by decide +kernel
theorem dX11_balance_66 : decode cX11_balance 66 = .ok (.aload_n 0, 1) := by decide +kernel
theorem dX11_balance_67 : decode cX11_balance 67 = .ok (.getfield 62, 3) := by decide +kernel
theorem dX11_balance_70 : decode cX11_balance 70 = .ok (.iload 6, 2) := by decide +kernel
theorem dX11_balance_72 : decode cX11_balance 72 = .ok (.iaload, 1) := by decide +kernel
theorem dX11_balance_73 : decode cX11_balance 73 = .ok (.iload_n 2, 1) := by decide +kernel
theorem dX11_balance_74 : decode cX11_balance 74 = .ok (.if_icmp .gt 37, 3) := by decide +kernel
theorem dX11_balance_77 : decode cX11_balance 77 = .ok (.aload_n 0, 1) := by decide +kernel
theorem dX11_balance_78 : decode cX11_balance 78 = .ok (.getfield 72, 3) := by decide +kernel
theorem dX11_balance_81 : decode cX11_balance 81 = .ok (.iload 6, 2) := by decide +kernel
theorem dX11_balance_83 : decode cX11_balance 83 = .ok (.iaload, 1) := by decide +kernel
theorem dX11_balance_84 : decode cX11_balance 84 = .ok (.iconst (-1), 1) := by decide +kernel
theorem dX11_balance_85 : decode cX11_balance 85 = .ok (.if_icmp .eq 14, 3) := by decide +kernel
theorem dX11_balance_88 : decode cX11_balance 88 = .ok (.aload_n 0, 1) := by decide +kernel
theorem dX11_balance_89 : decode cX11_balance 89 = .ok (.getfield 72, 3) := by decide +kernel
theorem dX11_balance_92 : decode cX11_balance 92 = .ok (.iload 6, 2) := by decide +kernel
theorem dX11_balance_94 : decode cX11_balance 94 = .ok (.iaload, 1) := by decide +kernel
theorem dX11_balance_95 : decode cX11_balance 95 = .ok (.iload_n 3, 1) := by decide +kernel
theorem dX11_balance_96 : decode cX11_balance 96 = .ok (.if_icmp .le 15, 3) := by decide +kernel
theorem dX11_balance_99 : decode cX11_balance 99 = .ok (.lload 4, 2) := by decide +kernel
theorem dX11_balance_101 : decode cX11_balance 101 = .ok (.aload_n 0, 1) := by decide +kernel
theorem dX11_balance_102 : decode cX11_balance 102 = .ok (.getfield 68, 3) := by decide +kernel
theorem dX11_balance_105 : decode cX11_balance 105 = .ok (.iload 6, 2) := by decide +kernel
theorem dX11_balance_107 : decode cX11_balance 107 = .ok (.laload, 1) := by decide +kernel
theorem dX11_balance_108 : decode cX11_balance 108 = .ok (.ladd, 1) := by decide +kernel
theorem dX11_balance_109 : decode cX11_balance 109 = .ok (.lstore 4, 2) := by decide +kernel
theorem dX11_balance_111 : decode cX11_balance 111 = .ok (.iinc 6 1, 3) := by decide +kernel
theorem dX11_balance_114 : decode cX11_balance 114 = .ok (.goto (-68), 3) := by decide +kernel
theorem dX11_balance_117 : decode cX11_balance 117 = .ok (.lload 4, 2) := by decide +kernel
theorem dX11_balance_119 : decode cX11_balance 119 = .ok (.lreturn, 1) := by decide +kernel
theorem dX11_lag_0 : decode cX11_lag 0 = .ok (.aload_n 0, 1) := by decide +kernel
theorem dX11_lag_1 : decode cX11_lag 1 = .ok (.iconst 0, 1) := by decide +kernel
theorem dX11_lag_2 : decode cX11_lag 2 = .ok (.putfield 84, 3) := by decide +kernel
theorem dX11_lag_5 : decode cX11_lag 5 = .ok (.iload_n 1, 1) := by decide +kernel
theorem dX11_lag_6 : decode cX11_lag 6 = .ok (.iconst 0, 1) := by decide +kernel
theorem dX11_lag_7 : decode cX11_lag 7 = .ok (.bipush 9, 2) := by decide +kernel
theorem dX11_lag_9 : decode cX11_lag 9 = .ok (.invokestatic 91, 3) := by decide +kernel
theorem dX11_lag_12 : decode cX11_lag 12 = .ok (.ifCond .eq 13, 3) := by decide +kernel
theorem dX11_lag_15 : decode cX11_lag 15 = .ok (.iload_n 2, 1) := by decide +kernel
theorem dX11_lag_16 : decode cX11_lag 16 = .ok (.iconst 0, 1) := by decide +kernel
theorem dX11_lag_17 : decode cX11_lag 17 = .ok (.bipush 20, 2) := by decide +kernel
theorem dX11_lag_19 : decode cX11_lag 19 = .ok (.invokestatic 91, 3) := by decide +kernel
theorem dX11_lag_22 : decode cX11_lag 22 = .ok (.ifCond .ne 5, 3) := by decide +kernel
theorem dX11_lag_25 : decode cX11_lag 25 = .ok (.iconst 0, 1) := by decide +kernel
theorem dX11_lag_26 : decode cX11_lag 26 = .ok (.ireturn, 1) := by decide +kernel
theorem dX11_lag_27 : decode cX11_lag 27 = .ok (.aload_n 0, 1) := by decide +kernel
theorem dX11_lag_28 : decode cX11_lag 28 = .ok (.getfield 22, 3) := by decide +kernel
theorem dX11_lag_31 : decode cX11_lag 31 = .ok (.iload_n 1, 1) := by decide +kernel
theorem dX11_lag_32 : decode cX11_lag 32 = .ok (.iload_n 2, 1) := by decide +kernel
theorem dX11_lag_33 : decode cX11_lag 33 = .ok (.iastore, 1) := by decide +kernel
theorem dX11_lag_34 : decode cX11_lag 34 = .ok (.iconst 1, 1) := by decide +kernel
theorem dX11_lag_35 : decode cX11_lag 35 = .ok (.ireturn, 1) := by decide +kernel
theorem dX11_join_0 : decode cX11_join 0 = .ok (.aload_n 0, 1) := by decide +kernel
theorem dX11_join_1 : decode cX11_join 1 = .ok (.iconst 0, 1) := by decide +kernel
theorem dX11_join_2 : decode cX11_join 2 = .ok (.putfield 84, 3) := by decide +kernel
theorem dX11_join_5 : decode cX11_join 5 = .ok (.iload_n 1, 1) := by decide +kernel
theorem dX11_join_6 : decode cX11_join 6 = .ok (.iconst 0, 1) := by decide +kernel
theorem dX11_join_7 : decode cX11_join 7 = .ok (.iconst 3, 1) := by decide +kernel
theorem dX11_join_8 : decode cX11_join 8 = .ok (.invokestatic 91, 3) := by decide +kernel
theorem dX11_join_11 : decode cX11_join 11 = .ok (.ifCond .eq 22, 3) := by decide +kernel
theorem dX11_join_14 : decode cX11_join 14 = .ok (.iload_n 2, 1) := by decide +kernel
theorem dX11_join_15 : decode cX11_join 15 = .ok (.iconst 0, 1) := by decide +kernel
theorem dX11_join_16 : decode cX11_join 16 = .ok (.bipush 9, 2) := by decide +kernel
theorem dX11_join_18 : decode cX11_join 18 = .ok (.invokestatic 91, 3) := by decide +kernel
theorem dX11_join_21 : decode cX11_join 21 = .ok (.ifCond .eq 12, 3) := by decide +kernel
theorem dX11_join_24 : decode cX11_join 24 = .ok (.aload_n 0, 1) := by decide +kernel
theorem dX11_join_25 : decode cX11_join 25 = .ok (.getfield 88, 3) := by decide +kernel
theorem dX11_join_28 : decode cX11_join 28 = .ok (.bipush 40, 2) := by decide +kernel
theorem dX11_join_30 : decode cX11_join 30 = .ok (.if_icmp .ne 5, 3) := by decide +kernel
theorem dX11_join_33 : decode cX11_join 33 = .ok (.iconst (-1), 1) := by decide +kernel
theorem dX11_join_34 : decode cX11_join 34 = .ok (.ireturn, 1) := by decide +kernel
theorem dX11_join_35 : decode cX11_join 35 = .ok (.aload_n 0, 1) := by decide +kernel
theorem dX11_join_36 : decode cX11_join 36 = .ok (.iconst 3, 1) := by decide +kernel
theorem dX11_join_37 : decode cX11_join 37 = .ok (.aload_n 0, 1) := by decide +kernel
theorem dX11_join_38 : decode cX11_join 38 = .ok (.getfield 163, 3) := by decide +kernel
theorem dX11_join_41 : decode cX11_join 41 = .ok (.invokevirtual 157, 3) := by decide +kernel
theorem dX11_join_44 : decode cX11_join 44 = .ok (.istore_n 3, 1) := by decide +kernel
theorem dX11_join_45 : decode cX11_join 45 = .ok (.iload_n 3, 1) := by decide +kernel
theorem dX11_join_46 : decode cX11_join 46 = .ok (.ifCond .le 16, 3) := by decide +kernel
theorem dX11_join_49 : decode cX11_join 49 = .ok (.aload_n 0, 1) := by decide +kernel
theorem dX11_join_50 : decode cX11_join 50 = .ok (.getfield 25, 3) := by decide +kernel
theorem dX11_join_53 : decode cX11_join 53 = .ok (.iload_n 2, 1) := by decide +kernel
theorem dX11_join_54 : decode cX11_join 54 = .ok (.baload, 1) := by decide +kernel
theorem dX11_join_55 : decode cX11_join 55 = .ok (.ifCond .ne 7, 3) := by decide +kernel
theorem dX11_join_58 : decode cX11_join 58 = .ok (.iconst 1, 1) := by decide +kernel
theorem dX11_join_59 : decode cX11_join 59 = .ok (.goto 4, 3) := by decide +kernel
theorem dX11_join_62 : decode cX11_join 62 = .ok (.iconst 0, 1) := by decide +kernel
theorem dX11_join_63 : decode cX11_join 63 = .ok (.istore 4, 2) := by decide +kernel
theorem dX11_join_65 : decode cX11_join 65 = .ok (.iload 4, 2) := by decide +kernel
theorem dX11_join_67 : decode cX11_join 67 = .ok (.ifCond .eq 15, 3) := by decide +kernel
theorem dX11_join_70 : decode cX11_join 70 = .ok (.aload_n 0, 1) := by decide +kernel
theorem dX11_join_71 : decode cX11_join 71 = .ok (.getfield 160, 3) := by decide +kernel
theorem dX11_join_74 : decode cX11_join 74 = .ok (.sipush 900, 3) := by decide +kernel
theorem dX11_join_77 : decode cX11_join 77 = .ok (.if_icmp .ne 5, 3) := by decide +kernel
theorem dX11_join_80 : decode cX11_join 80 = .ok (.iconst (-1), 1) := by decide +kernel
theorem dX11_join_81 : decode cX11_join 81 = .ok (.ireturn, 1) := by decide +kernel
theorem dX11_join_82 : decode cX11_join 82 = .ok (.aload_n 0, 1) := by decide +kernel
theorem dX11_join_83 : decode cX11_join 83 = .ok (.getfield 88, 3) := by decide +kernel
theorem dX11_join_86 : decode cX11_join 86 = .ok (.istore 5, 2) := by decide +kernel
theorem dX11_join_88 : decode cX11_join 88 = .ok (.aload_n 0, 1) := by decide +kernel
theorem dX11_join_89 : decode cX11_join 89 = .ok (.getfield 29, 3) := by decide +kernel
theorem dX11_join_92 : decode cX11_join 92 = .ok (.iload 5, 2) := by decide +kernel
theorem dX11_join_94 : decode cX11_join 94 = .ok (.iload_n 1, 1) := by decide +kernel
theorem dX11_join_95 : decode cX11_join 95 = .ok (.iastore, 1) := by decide +kernel
theorem dX11_join_96 : decode cX11_join 96 = .ok (.aload_n 0, 1) := by decide +kernel
theorem dX11_join_97 : decode cX11_join 97 = .ok (.getfield 32, 3) := by decide +kernel
theorem dX11_join_100 : decode cX11_join 100 = .ok (.iload 5, 2) := by decide +kernel
theorem dX11_join_102 : decode cX11_join 102 = .ok (.iload_n 2, 1) := by decide +kernel
theorem dX11_join_103 : decode cX11_join 103 = .ok (.iastore, 1) := by decide +kernel
theorem dX11_join_104 : decode cX11_join 104 = .ok (.aload_n 0, 1) := by decide +kernel
theorem dX11_join_105 : decode cX11_join 105 = .ok (.getfield 35, 3) := by decide +kernel
theorem dX11_join_108 : decode cX11_join 108 = .ok (.iload 5, 2) := by decide +kernel
theorem dX11_join_110 : decode cX11_join 110 = .ok (.iconst 0, 1) := by decide +kernel
theorem dX11_join_111 : decode cX11_join 111 = .ok (.iastore, 1) := by decide +kernel
theorem dX11_join_112 : decode cX11_join 112 = .ok (.aload_n 0, 1) := by decide +kernel
theorem dX11_join_113 : decode cX11_join 113 = .ok (.getfield 38, 3) := by decide +kernel
theorem dX11_join_116 : decode cX11_join 116 = .ok (.iload 5, 2) := by decide +kernel
theorem dX11_join_118 : decode cX11_join 118 = .ok (.iconst 0, 1) := by decide +kernel
theorem dX11_join_119 : decode cX11_join 119 = .ok (.iastore, 1) := by decide +kernel
theorem dX11_join_120 : decode cX11_join 120 = .ok (.aload_n 0, 1) := by decide +kernel
theorem dX11_join_121 : decode cX11_join 121 = .ok (.getfield 41, 3) := by decide +kernel
theorem dX11_join_124 : decode cX11_join 124 = .ok (.iload 5, 2) := by decide +kernel
theorem dX11_join_126 : decode cX11_join 126 = .ok (.iconst 0, 1) := by decide +kernel
theorem dX11_join_127 : decode cX11_join 127 = .ok (.iastore, 1) := by decide +kernel
theorem dX11_join_128 : decode cX11_join 128 = .ok (.aload_n 0, 1) := by decide +kernel
theorem dX11_join_129 : decode cX11_join 129 = .ok (.getfield 44, 3) := by decide +kernel
theorem dX11_join_132 : decode cX11_join 132 = .ok (.iload 5, 2) := by decide +kernel
theorem dX11_join_134 : decode cX11_join 134 = .ok (.iconst 0, 1) := by decide +kernel
theorem dX11_join_135 : decode cX11_join 135 = .ok (.iastore, 1) := by decide +kernel
theorem dX11_join_136 : decode cX11_join 136 = .ok (.aload_n 0, 1) := by decide +kernel
theorem dX11_join_137 : decode cX11_join 137 = .ok (.getfield 47, 3) := by decide +kernel
theorem dX11_join_140 : decode cX11_join 140 = .ok (.iload 5, 2) := by decide +kernel
theorem dX11_join_142 : decode cX11_join 142 = .ok (.iconst 0, 1) := by decide +kernel
theorem dX11_join_143 : decode cX11_join 143 = .ok (.bastore, 1) := by decide +kernel
theorem dX11_join_144 : decode cX11_join 144 = .ok (.aload_n 0, 1) := by decide +kernel
theorem dX11_join_145 : decode cX11_join 145 = .ok (.getfield 50, 3) := by decide +kernel
theorem dX11_join_148 : decode cX11_join 148 = .ok (.iload 5, 2) := by decide +kernel
theorem dX11_join_150 : decode cX11_join 150 = .ok (.iconst 0, 1) := by decide +kernel
theorem dX11_join_151 : decode cX11_join 151 = .ok (.bastore, 1) := by decide +kernel
theorem dX11_join_152 : decode cX11_join 152 = .ok (.aload_n 0, 1) := by decide +kernel
theorem dX11_join_153 : decode cX11_join 153 = .ok (.getfield 53, 3) := by decide +kernel
theorem dX11_join_156 : decode cX11_join 156 = .ok (.iload 5, 2) := by decide +kernel
theorem dX11_join_158 : decode cX11_join 158 = .ok (.iconst 0, 1) := by decide +kernel
theorem dX11_join_159 : decode cX11_join 159 = .ok (.bastore, 1) := by decide +kernel
theorem dX11_join_160 : decode cX11_join 160 = .ok (.aload_n 0, 1) := by decide +kernel
theorem dX11_join_161 : decode cX11_join 161 = .ok (.dup, 1) := by decide +kernel
theorem dX11_join_162 : decode cX11_join 162 = .ok (.getfield 88, 3) := by decide +kernel
theorem dX11_join_165 : decode cX11_join 165 = .ok (.iconst 1, 1) := by decide +kernel
theorem dX11_join_166 : decode cX11_join 166 = .ok (.iadd, 1) := by decide +kernel
theorem dX11_join_167 : decode cX11_join 167 = .ok (.putfield 88, 3) := by decide +kernel
theorem dX11_join_170 : decode cX11_join 170 = .ok (.iload 4, 2) := by decide +kernel
theorem dX11_join_172 : decode cX11_join 172 = .ok (.ifCond .eq 19, 3) := by decide +kernel
theorem dX11_join_175 : decode cX11_join 175 = .ok (.aload_n 0, 1) := by decide +kernel
theorem dX11_join_176 : decode cX11_join 176 = .ok (.getfield 25, 3) := by decide +kernel
theorem dX11_join_179 : decode cX11_join 179 = .ok (.iload_n 2, 1) := by decide +kernel
theorem dX11_join_180 : decode cX11_join 180 = .ok (.iconst 1, 1) := by decide +kernel
theorem dX11_join_181 : decode cX11_join 181 = .ok (.bastore, 1) := by decide +kernel
theorem dX11_join_182 : decode cX11_join 182 = .ok (.aload_n 0, 1) := by decide +kernel
theorem dX11_join_183 : decode cX11_join 183 = .ok (.iload 5, 2) := by decide +kernel
theorem dX11_join_185 : decode cX11_join 185 = .ok (.iconst 0, 1) := by decide +kernel
theorem dX11_join_186 : decode cX11_join 186 = .ok (.iload_n 3, 1) := by decide +kernel
theorem dX11_join_187 : decode cX11_join 187 = .ok (.i2l, 1) := by decide +kernel
theorem dX11_join_188 : decode cX11_join 188 = .ok (.invokevirtual 169, 3) := by decide +kernel
theorem dX11_join_191 : decode cX11_join 191 = .ok (.iload 5, 2) := by decide +kernel
theorem dX11_join_193 : decode cX11_join 193 = .ok (.ireturn, 1) := by decide +kernel
theorem dX11_move_0 : decode cX11_move 0 = .ok (.aload_n 0, 1) := by decide +kernel
theorem dX11_move_1 : decode cX11_move 1 = .ok (.iconst 0, 1) := by decide +kernel
theorem dX11_move_2 : decode cX11_move 2 = .ok (.putfield 84, 3) := by decide +kernel
theorem dX11_move_5 : decode cX11_move 5 = .ok (.aload_n 0, 1) := by decide +kernel
theorem dX11_move_6 : decode cX11_move 6 = .ok (.iload_n 1, 1) := by decide +kernel
theorem dX11_move_7 : decode cX11_move 7 = .ok (.invokevirtual 166, 3) := by decide +kernel
theorem dX11_move_10 : decode cX11_move 10 = .ok (.ifCond .eq 23, 3) := by decide +kernel
theorem dX11_move_13 : decode cX11_move 13 = .ok (.iload_n 2, 1) := by decide +kernel
theorem dX11_move_14 : decode cX11_move 14 = .ok (.iconst 0, 1) := by decide +kernel
theorem dX11_move_15 : decode cX11_move 15 = .ok (.bipush 9, 2) := by decide +kernel
theorem dX11_move_17 : decode cX11_move 17 = .ok (.invokestatic 91, 3) := by decide +kernel
theorem dX11_move_20 : decode cX11_move 20 = .ok (.ifCond .eq 13, 3) := by decide +kernel
theorem dX11_move_23 : decode cX11_move 23 = .ok (.aload_n 0, 1) := by decide +kernel
theorem dX11_move_24 : decode cX11_move 24 = .ok (.getfield 35, 3) := by decide +kernel
theorem dX11_move_27 : decode cX11_move 27 = .ok (.iload_n 1, 1) := by decide +kernel
theorem dX11_move_28 : decode cX11_move 28 = .ok (.iaload, 1) := by decide +kernel
theorem dX11_move_29 : decode cX11_move 29 = .ok (.iconst 2, 1) := by decide +kernel
theorem dX11_move_30 : decode cX11_move 30 = .ok (.if_icmp .ne 5, 3) := by decide +kernel
theorem dX11_move_33 : decode cX11_move 33 = .ok (.iconst 0, 1) := by decide +kernel
theorem dX11_move_34 : decode cX11_move 34 = .ok (.ireturn, 1) := by decide +kernel
theorem dX11_move_35 : decode cX11_move 35 = .ok (.aload_n 0, 1) := by decide +kernel
theorem dX11_move_36 : decode cX11_move 36 = .ok (.getfield 32, 3) := by decide +kernel
theorem dX11_move_39 : decode cX11_move 39 = .ok (.iload_n 1, 1) := by decide +kernel
theorem dX11_move_40 : decode cX11_move 40 = .ok (.iload_n 2, 1) := by decide +kernel
theorem dX11_move_41 : decode cX11_move 41 = .ok (.iastore, 1) := by decide +kernel
theorem dX11_move_42 : decode cX11_move 42 = .ok (.iconst 1, 1) := by decide +kernel
theorem dX11_move_43 : decode cX11_move 43 = .ok (.ireturn, 1) := by decide +kernel
theorem dX11_owes_0 : decode cX11_owes 0 = .ok (.aload_n 0, 1) := by decide +kernel
theorem dX11_owes_1 : decode cX11_owes 1 = .ok (.iload_n 1, 1) := by decide +kernel
theorem dX11_owes_2 : decode cX11_owes 2 = .ok (.invokevirtual 173, 3) := by decide +kernel
theorem dX11_owes_5 : decode cX11_owes 5 = .ok (.aload_n 0, 1) := by decide +kernel
theorem dX11_owes_6 : decode cX11_owes 6 = .ok (.iconst 4, 1) := by decide +kernel
theorem dX11_owes_7 : decode cX11_owes 7 = .ok (.aload_n 0, 1) := by decide +kernel
theorem dX11_owes_8 : decode cX11_owes 8 = .ok (.getfield 163, 3) := by decide +kernel
theorem dX11_owes_11 : decode cX11_owes 11 = .ok (.invokevirtual 157, 3) := by decide +kernel
theorem dX11_owes_14 : decode cX11_owes 14 = .ok (.ineg, 1) := by decide +kernel
theorem dX11_owes_15 : decode cX11_owes 15 = .ok (.i2l, 1) := by decide +kernel
theorem dX11_owes_16 : decode cX11_owes 16 = .ok (.lcmp, 1) := by decide +kernel
theorem dX11_owes_17 : decode cX11_owes 17 = .ok (.ifCond .ge 7, 3) := by decide +kernel
theorem dX11_owes_20 : decode cX11_owes 20 = .ok (.iconst 1, 1) := by decide +kernel
theorem dX11_owes_21 : decode cX11_owes 21 = .ok (.goto 4, 3) := by decide +kernel
theorem dX11_owes_24 : decode cX11_owes 24 = .ok (.iconst 0, 1) := by decide +kernel
theorem dX11_owes_25 : decode cX11_owes 25 = .ok (.ireturn, 1) := by decide +kernel
theorem dX11_pay_0 : decode cX11_pay 0 = .ok (.aload_n 0, 1) := by decide +kernel
theorem dX11_pay_1 : decode cX11_pay 1 = .ok (.iconst 0, 1) := by decide +kernel
theorem dX11_pay_2 : decode cX11_pay 2 = .ok (.putfield 84, 3) := by decide +kernel
theorem dX11_pay_5 : decode cX11_pay 5 = .ok (.aload_n 0, 1) := by decide +kernel
theorem dX11_pay_6 : decode cX11_pay 6 = .ok (.iload_n 1, 1) := by decide +kernel
theorem dX11_pay_7 : decode cX11_pay 7 = .ok (.invokevirtual 166, 3) := by decide +kernel
theorem dX11_pay_10 : decode cX11_pay 10 = .ok (.ifCond .eq 23, 3) := by decide +kernel
theorem dX11_pay_13 : decode cX11_pay 13 = .ok (.iload_n 2, 1) := by decide +kernel
theorem dX11_pay_14 : decode cX11_pay 14 = .ok (.iconst 1, 1) := by decide +kernel
theorem dX11_pay_15 : decode cX11_pay 15 = .ok (.ldc 137, 2) := by decide +kernel
theorem dX11_pay_17 : decode cX11_pay 17 = .ok (.invokestatic 91, 3) := by decide +kernel
theorem dX11_pay_20 : decode cX11_pay 20 = .ok (.ifCond .eq 13, 3) := by decide +kernel
theorem dX11_pay_23 : decode cX11_pay 23 = .ok (.aload_n 0, 1) := by decide +kernel
theorem dX11_pay_24 : decode cX11_pay 24 = .ok (.getfield 160, 3) := by decide +kernel
theorem dX11_pay_27 : decode cX11_pay 27 = .ok (.sipush 900, 3) := by decide +kernel
theorem dX11_pay_30 : decode cX11_pay 30 = .ok (.if_icmp .ne 7, 3) := by decide +kernel
theorem dX11_pay_33 : decode cX11_pay 33 = .ok (.ldc2_w 177, 3) := by decide +kernel
theorem dX11_pay_36 : decode cX11_pay 36 = .ok (.lreturn, 1) := by decide +kernel
theorem dX11_pay_37 : decode cX11_pay 37 = .ok (.aload_n 0, 1) := by decide +kernel
theorem dX11_pay_38 : decode cX11_pay 38 = .ok (.iload_n 1, 1) := by decide +kernel
theorem dX11_pay_39 : decode cX11_pay 39 = .ok (.iconst 1, 1) := by decide +kernel
theorem dX11_pay_40 : decode cX11_pay 40 = .ok (.iload_n 2, 1) := by decide +kernel
theorem dX11_pay_41 : decode cX11_pay 41 = .ok (.i2l, 1) := by decide +kernel
theorem dX11_pay_42 : decode cX11_pay 42 = .ok (.invokevirtual 169, 3) := by decide +kernel
theorem dX11_pay_45 : decode cX11_pay 45 = .ok (.aload_n 0, 1) := by decide +kernel
theorem dX11_pay_46 : decode cX11_pay 46 = .ok (.iload_n 1, 1) := by decide +kernel
theorem dX11_pay_47 : decode cX11_pay 47 = .ok (.invokevirtual 179, 3) := by decide +kernel
theorem dX11_pay_50 : decode cX11_pay 50 = .ok (.ifCond .ne 27, 3) := by decide +kernel
theorem dX11_pay_53 : decode cX11_pay 53 = .ok (.aload_n 0, 1) := by decide +kernel
theorem dX11_pay_54 : decode cX11_pay 54 = .ok (.getfield 41, 3) := by decide +kernel
theorem dX11_pay_57 : decode cX11_pay 57 = .ok (.iload_n 1, 1) := by decide +kernel
theorem dX11_pay_58 : decode cX11_pay 58 = .ok (.iconst 0, 1) := by decide +kernel
theorem dX11_pay_59 : decode cX11_pay 59 = .ok (.iastore, 1) := by decide +kernel
theorem dX11_pay_60 : decode cX11_pay 60 = .ok (.aload_n 0, 1) := by decide +kernel
theorem dX11_pay_61 : decode cX11_pay 61 = .ok (.getfield 35, 3) := by decide +kernel
theorem dX11_pay_64 : decode cX11_pay 64 = .ok (.iload_n 1, 1) := by decide +kernel
theorem dX11_pay_65 : decode cX11_pay 65 = .ok (.iaload, 1) := by decide +kernel
theorem dX11_pay_66 : decode cX11_pay 66 = .ok (.iconst 1, 1) := by decide +kernel
theorem dX11_pay_67 : decode cX11_pay 67 = .ok (.if_icmp .ne 10, 3) := by decide +kernel
theorem dX11_pay_70 : decode cX11_pay 70 = .ok (.aload_n 0, 1) := by decide +kernel
theorem dX11_pay_71 : decode cX11_pay 71 = .ok (.getfield 35, 3) := by decide +kernel
theorem dX11_pay_74 : decode cX11_pay 74 = .ok (.iload_n 1, 1) := by decide +kernel
theorem dX11_pay_75 : decode cX11_pay 75 = .ok (.iconst 0, 1) := by decide +kernel
theorem dX11_pay_76 : decode cX11_pay 76 = .ok (.iastore, 1) := by decide +kernel
theorem dX11_pay_77 : decode cX11_pay 77 = .ok (.aload_n 0, 1) := by decide +kernel
theorem dX11_pay_78 : decode cX11_pay 78 = .ok (.iload_n 1, 1) := by decide +kernel
theorem dX11_pay_79 : decode cX11_pay 79 = .ok (.invokevirtual 173, 3) := by decide +kernel
theorem dX11_pay_82 : decode cX11_pay 82 = .ok (.lreturn, 1) := by decide +kernel
theorem dX11_leave_0 : decode cX11_leave 0 = .ok (.aload_n 0, 1) := by decide +kernel
theorem dX11_leave_1 : decode cX11_leave 1 = .ok (.iconst 0, 1) := by decide +kernel
theorem dX11_leave_2 : decode cX11_leave 2 = .ok (.putfield 84, 3) := by decide +kernel
theorem dX11_leave_5 : decode cX11_leave 5 = .ok (.aload_n 0, 1) := by decide +kernel
theorem dX11_leave_6 : decode cX11_leave 6 = .ok (.iload_n 1, 1) := by decide +kernel
theorem dX11_leave_7 : decode cX11_leave 7 = .ok (.invokevirtual 166, 3) := by decide +kernel
theorem dX11_leave_10 : decode cX11_leave 10 = .ok (.ifCond .eq 13, 3) := by decide +kernel
theorem dX11_leave_13 : decode cX11_leave 13 = .ok (.aload_n 0, 1) := by decide +kernel
theorem dX11_leave_14 : decode cX11_leave 14 = .ok (.getfield 35, 3) := by decide +kernel
theorem dX11_leave_17 : decode cX11_leave 17 = .ok (.iload_n 1, 1) := by decide +kernel
theorem dX11_leave_18 : decode cX11_leave 18 = .ok (.iaload, 1) := by decide +kernel
theorem dX11_leave_19 : decode cX11_leave 19 = .ok (.iconst 2, 1) := by decide +kernel
theorem dX11_leave_20 : decode cX11_leave 20 = .ok (.if_icmp .ne 7, 3) := by decide +kernel
theorem dX11_leave_23 : decode cX11_leave 23 = .ok (.ldc2_w 182, 3) := by decide +kernel
theorem dX11_leave_26 : decode cX11_leave 26 = .ok (.lreturn, 1) := by decide +kernel
theorem dX11_leave_27 : decode cX11_leave 27 = .ok (.aload_n 0, 1) := by decide +kernel
theorem dX11_leave_28 : decode cX11_leave 28 = .ok (.iload_n 1, 1) := by decide +kernel
theorem dX11_leave_29 : decode cX11_leave 29 = .ok (.invokevirtual 173, 3) := by decide +kernel
theorem dX11_leave_32 : decode cX11_leave 32 = .ok (.lstore_n 2, 1) := by decide +kernel
theorem dX11_leave_33 : decode cX11_leave 33 = .ok (.lload_n 2, 1) := by decide +kernel
theorem dX11_leave_34 : decode cX11_leave 34 = .ok (.lconst 0, 1) := by decide +kernel
theorem dX11_leave_35 : decode cX11_leave 35 = .ok (.lcmp, 1) := by decide +kernel
theorem dX11_leave_36 : decode cX11_leave 36 = .ok (.ifCond .le 17, 3) := by decide +kernel
theorem dX11_leave_39 : decode cX11_leave 39 = .ok (.aload_n 0, 1) := by decide +kernel
theorem dX11_leave_40 : decode cX11_leave 40 = .ok (.getfield 160, 3) := by decide +kernel
theorem dX11_leave_43 : decode cX11_leave 43 = .ok (.sipush 900, 3) := by decide +kernel
theorem dX11_leave_46 : decode cX11_leave 46 = .ok (.if_icmp .ne 7, 3) := by decide +kernel
theorem dX11_leave_49 : decode cX11_leave 49 = .ok (.ldc2_w 182, 3) := by decide +kernel
theorem dX11_leave_52 : decode cX11_leave 52 = .ok (.lreturn, 1) := by decide +kernel
theorem dX11_leave_53 : decode cX11_leave 53 = .ok (.aload_n 0, 1) := by decide +kernel
theorem dX11_leave_54 : decode cX11_leave 54 = .ok (.getfield 35, 3) := by decide +kernel
theorem dX11_leave_57 : decode cX11_leave 57 = .ok (.iload_n 1, 1) := by decide +kernel
theorem dX11_leave_58 : decode cX11_leave 58 = .ok (.iconst 2, 1) := by decide +kernel
theorem dX11_leave_59 : decode cX11_leave 59 = .ok (.iastore, 1) := by decide +kernel
theorem dX11_leave_60 : decode cX11_leave 60 = .ok (.lload_n 2, 1) := by decide +kernel
theorem dX11_leave_61 : decode cX11_leave 61 = .ok (.lconst 0, 1) := by decide +kernel
theorem dX11_leave_62 : decode cX11_leave 62 = .ok (.lcmp, 1) := by decide +kernel
theorem dX11_leave_63 : decode cX11_leave 63 = .ok (.ifCond .gt 5, 3) := by decide +kernel
theorem dX11_leave_66 : decode cX11_leave 66 = .ok (.lconst 0, 1) := by decide +kernel
theorem dX11_leave_67 : decode cX11_leave 67 = .ok (.lreturn, 1) := by decide +kernel
theorem dX11_leave_68 : decode cX11_leave 68 = .ok (.aload_n 0, 1) := by decide +kernel
theorem dX11_leave_69 : decode cX11_leave 69 = .ok (.iload_n 1, 1) := by decide +kernel
theorem dX11_leave_70 : decode cX11_leave 70 = .ok (.bipush 6, 2) := by decide +kernel
theorem dX11_leave_72 : decode cX11_leave 72 = .ok (.lload_n 2, 1) := by decide +kernel
theorem dX11_leave_73 : decode cX11_leave 73 = .ok (.lneg, 1) := by decide +kernel
theorem dX11_leave_74 : decode cX11_leave 74 = .ok (.invokevirtual 169, 3) := by decide +kernel
theorem dX11_leave_77 : decode cX11_leave 77 = .ok (.lload_n 2, 1) := by decide +kernel
theorem dX11_leave_78 : decode cX11_leave 78 = .ok (.lreturn, 1) := by decide +kernel
theorem dX11_member_0 : decode cX11_member 0 = .ok (.aload_n 0, 1) := by decide +kernel
theorem dX11_member_1 : decode cX11_member 1 = .ok (.iconst 0, 1) := by decide +kernel
theorem dX11_member_2 : decode cX11_member 2 = .ok (.putfield 84, 3) := by decide +kernel
theorem dX11_member_5 : decode cX11_member 5 = .ok (.aload_n 0, 1) := by decide +kernel
theorem dX11_member_6 : decode cX11_member 6 = .ok (.iload_n 1, 1) := by decide +kernel
theorem dX11_member_7 : decode cX11_member 7 = .ok (.invokevirtual 166, 3) := by decide +kernel
theorem dX11_member_10 : decode cX11_member 10 = .ok (.ifCond .eq 13, 3) := by decide +kernel
theorem dX11_member_13 : decode cX11_member 13 = .ok (.iload_n 2, 1) := by decide +kernel
theorem dX11_member_14 : decode cX11_member 14 = .ok (.iconst 0, 1) := by decide +kernel
theorem dX11_member_15 : decode cX11_member 15 = .ok (.bipush 8, 2) := by decide +kernel
theorem dX11_member_17 : decode cX11_member 17 = .ok (.invokestatic 91, 3) := by decide +kernel
theorem dX11_member_20 : decode cX11_member 20 = .ok (.ifCond .ne 10, 3) := by decide +kernel
theorem dX11_member_23 : decode cX11_member 23 = .ok (.aload_n 0, 1) := by decide +kernel
theorem dX11_member_24 : decode cX11_member 24 = .ok (.iconst 1, 1) := by decide +kernel
theorem dX11_member_25 : decode cX11_member 25 = .ok (.putfield 84, 3) := by decide +kernel
theorem dX11_member_28 : decode cX11_member 28 = .ok (.lconst 0, 1) := by decide +kernel
theorem dX11_member_29 : decode cX11_member 29 = .ok (.lreturn, 1) := by decide +kernel
theorem dX11_member_30 : decode cX11_member 30 = .ok (.iload_n 2, 1) := by decide +kernel
theorem dX11_member_31 : decode cX11_member 31 = .ok (.tableswitch 114 0 7 #[45, 53, 61, 69, 77, 85, 91, 99], 45) := by decide +kernel
theorem dX11_member_76 : decode cX11_member 76 = .ok (.aload_n 0, 1) := by decide +kernel
theorem dX11_member_77 : decode cX11_member 77 = .ok (.getfield 29, 3) := by decide +kernel
theorem dX11_member_80 : decode cX11_member 80 = .ok (.iload_n 1, 1) := by decide +kernel
theorem dX11_member_81 : decode cX11_member 81 = .ok (.iaload, 1) := by decide +kernel
theorem dX11_member_82 : decode cX11_member 82 = .ok (.i2l, 1) := by decide +kernel
theorem dX11_member_83 : decode cX11_member 83 = .ok (.lreturn, 1) := by decide +kernel
theorem dX11_member_84 : decode cX11_member 84 = .ok (.aload_n 0, 1) := by decide +kernel
theorem dX11_member_85 : decode cX11_member 85 = .ok (.getfield 32, 3) := by decide +kernel
theorem dX11_member_88 : decode cX11_member 88 = .ok (.iload_n 1, 1) := by decide +kernel
theorem dX11_member_89 : decode cX11_member 89 = .ok (.iaload, 1) := by decide +kernel
theorem dX11_member_90 : decode cX11_member 90 = .ok (.i2l, 1) := by decide +kernel
theorem dX11_member_91 : decode cX11_member 91 = .ok (.lreturn, 1) := by decide +kernel
theorem dX11_member_92 : decode cX11_member 92 = .ok (.aload_n 0, 1) := by decide +kernel
theorem dX11_member_93 : decode cX11_member 93 = .ok (.getfield 35, 3) := by decide +kernel
theorem dX11_member_96 : decode cX11_member 96 = .ok (.iload_n 1, 1) := by decide +kernel
theorem dX11_member_97 : decode cX11_member 97 = .ok (.iaload, 1) := by decide +kernel
theorem dX11_member_98 : decode cX11_member 98 = .ok (.i2l, 1) := by decide +kernel
theorem dX11_member_99 : decode cX11_member 99 = .ok (.lreturn, 1) := by decide +kernel
theorem dX11_member_100 : decode cX11_member 100 = .ok (.aload_n 0, 1) := by decide +kernel
theorem dX11_member_101 : decode cX11_member 101 = .ok (.getfield 38, 3) := by decide +kernel
theorem dX11_member_104 : decode cX11_member 104 = .ok (.iload_n 1, 1) := by decide +kernel
theorem dX11_member_105 : decode cX11_member 105 = .ok (.iaload, 1) := by decide +kernel
theorem dX11_member_106 : decode cX11_member 106 = .ok (.i2l, 1) := by decide +kernel
theorem dX11_member_107 : decode cX11_member 107 = .ok (.lreturn, 1) := by decide +kernel
theorem dX11_member_108 : decode cX11_member 108 = .ok (.aload_n 0, 1) := by decide +kernel
theorem dX11_member_109 : decode cX11_member 109 = .ok (.getfield 41, 3) := by decide +kernel
theorem dX11_member_112 : decode cX11_member 112 = .ok (.iload_n 1, 1) := by decide +kernel
theorem dX11_member_113 : decode cX11_member 113 = .ok (.iaload, 1) := by decide +kernel
theorem dX11_member_114 : decode cX11_member 114 = .ok (.i2l, 1) := by decide +kernel
theorem dX11_member_115 : decode cX11_member 115 = .ok (.lreturn, 1) := by decide +kernel
theorem dX11_member_116 : decode cX11_member 116 = .ok (.aload_n 0, 1) := by decide +kernel
theorem dX11_member_117 : decode cX11_member 117 = .ok (.iload_n 1, 1) := by decide +kernel
theorem dX11_member_118 : decode cX11_member 118 = .ok (.invokevirtual 173, 3) := by decide +kernel
theorem dX11_member_121 : decode cX11_member 121 = .ok (.lreturn, 1) := by decide +kernel
theorem dX11_member_122 : decode cX11_member 122 = .ok (.aload_n 0, 1) := by decide +kernel
theorem dX11_member_123 : decode cX11_member 123 = .ok (.getfield 44, 3) := by decide +kernel
theorem dX11_member_126 : decode cX11_member 126 = .ok (.iload_n 1, 1) := by decide +kernel
theorem dX11_member_127 : decode cX11_member 127 = .ok (.iaload, 1) := by decide +kernel
theorem dX11_member_128 : decode cX11_member 128 = .ok (.i2l, 1) := by decide +kernel
theorem dX11_member_129 : decode cX11_member 129 = .ok (.lreturn, 1) := by decide +kernel
theorem dX11_member_130 : decode cX11_member 130 = .ok (.aload_n 0, 1) := by decide +kernel
theorem dX11_member_131 : decode cX11_member 131 = .ok (.getfield 47, 3) := by decide +kernel
theorem dX11_member_134 : decode cX11_member 134 = .ok (.iload_n 1, 1) := by decide +kernel
theorem dX11_member_135 : decode cX11_member 135 = .ok (.baload, 1) := by decide +kernel
theorem dX11_member_136 : decode cX11_member 136 = .ok (.ifCond .eq 7, 3) := by decide +kernel
theorem dX11_member_139 : decode cX11_member 139 = .ok (.lconst 1, 1) := by decide +kernel
theorem dX11_member_140 : decode cX11_member 140 = .ok (.goto 4, 3) := by decide +kernel
theorem dX11_member_143 : decode cX11_member 143 = .ok (.lconst 0, 1) := by decide +kernel
theorem dX11_member_144 : decode cX11_member 144 = .ok (.lreturn, 1) := by decide +kernel
theorem dX11_member_145 : decode cX11_member 145 = .ok (.aload_n 0, 1) := by decide +kernel
theorem dX11_member_146 : decode cX11_member 146 = .ok (.getfield 50, 3) := by decide +kernel
theorem dX11_member_149 : decode cX11_member 149 = .ok (.iload_n 1, 1) := by decide +kernel
theorem dX11_member_150 : decode cX11_member 150 = .ok (.baload, 1) := by decide +kernel
theorem dX11_member_151 : decode cX11_member 151 = .ok (.ifCond .eq 7, 3) := by decide +kernel
theorem dX11_member_154 : decode cX11_member 154 = .ok (.lconst 1, 1) := by decide +kernel
theorem dX11_member_155 : decode cX11_member 155 = .ok (.goto 4, 3) := by decide +kernel
theorem dX11_member_158 : decode cX11_member 158 = .ok (.lconst 0, 1) := by decide +kernel
theorem dX11_member_159 : decode cX11_member 159 = .ok (.lreturn, 1) := by decide +kernel
theorem dX11_choice_0 : decode cX11_choice 0 = .ok (.aload_n 0, 1) := by decide +kernel
theorem dX11_choice_1 : decode cX11_choice 1 = .ok (.iconst 0, 1) := by decide +kernel
theorem dX11_choice_2 : decode cX11_choice 2 = .ok (.putfield 84, 3) := by decide +kernel
theorem dX11_choice_5 : decode cX11_choice 5 = .ok (.bipush 8, 2) := by decide +kernel
theorem dX11_choice_7 : decode cX11_choice 7 = .ok (.aload_n 0, 1) := by decide +kernel
theorem dX11_choice_8 : decode cX11_choice 8 = .ok (.getfield 163, 3) := by decide +kernel
theorem dX11_choice_11 : decode cX11_choice 11 = .ok (.imul, 1) := by decide +kernel
theorem dX11_choice_12 : decode cX11_choice 12 = .ok (.istore_n 3, 1) := by decide +kernel
theorem dX11_choice_13 : decode cX11_choice 13 = .ok (.iload_n 1, 1) := by decide +kernel
theorem dX11_choice_14 : decode cX11_choice 14 = .ok (.iconst 0, 1) := by decide +kernel
theorem dX11_choice_15 : decode cX11_choice 15 = .ok (.sipush 5000, 3) := by decide +kernel
theorem dX11_choice_18 : decode cX11_choice 18 = .ok (.invokestatic 91, 3) := by decide +kernel
theorem dX11_choice_21 : decode cX11_choice 21 = .ok (.ifCond .eq 30, 3) := by decide +kernel
theorem dX11_choice_24 : decode cX11_choice 24 = .ok (.iload_n 2, 1) := by decide +kernel
theorem dX11_choice_25 : decode cX11_choice 25 = .ok (.iconst 0, 1) := by decide +kernel
theorem dX11_choice_26 : decode cX11_choice 26 = .ok (.sipush 1000, 3) := by decide +kernel
theorem dX11_choice_29 : decode cX11_choice 29 = .ok (.invokestatic 91, 3) := by decide +kernel
theorem dX11_choice_32 : decode cX11_choice 32 = .ok (.ifCond .eq 19, 3) := by decide +kernel
theorem dX11_choice_35 : decode cX11_choice 35 = .ok (.aload_n 0, 1) := by decide +kernel
theorem dX11_choice_36 : decode cX11_choice 36 = .ok (.getfield 56, 3) := by decide +kernel
theorem dX11_choice_39 : decode cX11_choice 39 = .ok (.iload_n 3, 1) := by decide +kernel
theorem dX11_choice_40 : decode cX11_choice 40 = .ok (.iconst 1, 1) := by decide +kernel
theorem dX11_choice_41 : decode cX11_choice 41 = .ok (.iadd, 1) := by decide +kernel
theorem dX11_choice_42 : decode cX11_choice 42 = .ok (.iaload, 1) := by decide +kernel
theorem dX11_choice_43 : decode cX11_choice 43 = .ok (.iload_n 2, 1) := by decide +kernel
theorem dX11_choice_44 : decode cX11_choice 44 = .ok (.iadd, 1) := by decide +kernel
theorem dX11_choice_45 : decode cX11_choice 45 = .ok (.sipush 5000, 3) := by decide +kernel
theorem dX11_choice_48 : decode cX11_choice 48 = .ok (.if_icmp .le 5, 3) := by decide +kernel
theorem dX11_choice_51 : decode cX11_choice 51 = .ok (.iconst (-1), 1) := by decide +kernel
theorem dX11_choice_52 : decode cX11_choice 52 = .ok (.ireturn, 1) := by decide +kernel
theorem dX11_choice_53 : decode cX11_choice 53 = .ok (.aload_n 0, 1) := by decide +kernel
theorem dX11_choice_54 : decode cX11_choice 54 = .ok (.getfield 56, 3) := by decide +kernel
theorem dX11_choice_57 : decode cX11_choice 57 = .ok (.iload_n 3, 1) := by decide +kernel
theorem dX11_choice_58 : decode cX11_choice 58 = .ok (.iload_n 1, 1) := by decide +kernel
theorem dX11_choice_59 : decode cX11_choice 59 = .ok (.iastore, 1) := by decide +kernel
theorem dX11_choice_60 : decode cX11_choice 60 = .ok (.aload_n 0, 1) := by decide +kernel
theorem dX11_choice_61 : decode cX11_choice 61 = .ok (.getfield 56, 3) := by decide +kernel
theorem dX11_choice_64 : decode cX11_choice 64 = .ok (.iload_n 3, 1) := by decide +kernel
theorem dX11_choice_65 : decode cX11_choice 65 = .ok (.iconst 1, 1) := by decide +kernel
theorem dX11_choice_66 : decode cX11_choice 66 = .ok (.iadd, 1) := by decide +kernel
theorem dX11_choice_67 : decode cX11_choice 67 = .ok (.dup2, 1) := by decide +kernel
theorem dX11_choice_68 : decode cX11_choice 68 = .ok (.iaload, 1) := by decide +kernel
theorem dX11_choice_69 : decode cX11_choice 69 = .ok (.iload_n 2, 1) := by decide +kernel
theorem dX11_choice_70 : decode cX11_choice 70 = .ok (.iadd, 1) := by decide +kernel
theorem dX11_choice_71 : decode cX11_choice 71 = .ok (.iastore, 1) := by decide +kernel
theorem dX11_choice_72 : decode cX11_choice 72 = .ok (.aload_n 0, 1) := by decide +kernel
theorem dX11_choice_73 : decode cX11_choice 73 = .ok (.getfield 56, 3) := by decide +kernel
theorem dX11_choice_76 : decode cX11_choice 76 = .ok (.iload_n 3, 1) := by decide +kernel
theorem dX11_choice_77 : decode cX11_choice 77 = .ok (.iconst 2, 1) := by decide +kernel
theorem dX11_choice_78 : decode cX11_choice 78 = .ok (.iadd, 1) := by decide +kernel
theorem dX11_choice_79 : decode cX11_choice 79 = .ok (.dup2, 1) := by decide +kernel
theorem dX11_choice_80 : decode cX11_choice 80 = .ok (.iaload, 1) := by decide +kernel
theorem dX11_choice_81 : decode cX11_choice 81 = .ok (.iload_n 2, 1) := by decide +kernel
theorem dX11_choice_82 : decode cX11_choice 82 = .ok (.iadd, 1) := by decide +kernel
theorem dX11_choice_83 : decode cX11_choice 83 = .ok (.iastore, 1) := by decide +kernel
theorem dX11_choice_84 : decode cX11_choice 84 = .ok (.aload_n 0, 1) := by decide +kernel
theorem dX11_choice_85 : decode cX11_choice 85 = .ok (.getfield 56, 3) := by decide +kernel
theorem dX11_choice_88 : decode cX11_choice 88 = .ok (.iload_n 3, 1) := by decide +kernel
theorem dX11_choice_89 : decode cX11_choice 89 = .ok (.iconst 2, 1) := by decide +kernel
theorem dX11_choice_90 : decode cX11_choice 90 = .ok (.iadd, 1) := by decide +kernel
theorem dX11_choice_91 : decode cX11_choice 91 = .ok (.iaload, 1) := by decide +kernel
theorem dX11_choice_92 : decode cX11_choice 92 = .ok (.ireturn, 1) := by decide +kernel
theorem dX11_refuse_0 : decode cX11_refuse 0 = .ok (.aload_n 0, 1) := by decide +kernel
theorem dX11_refuse_1 : decode cX11_refuse 1 = .ok (.iconst 0, 1) := by decide +kernel
theorem dX11_refuse_2 : decode cX11_refuse 2 = .ok (.putfield 84, 3) := by decide +kernel
theorem dX11_refuse_5 : decode cX11_refuse 5 = .ok (.aload_n 0, 1) := by decide +kernel
theorem dX11_refuse_6 : decode cX11_refuse 6 = .ok (.iload_n 1, 1) := by decide +kernel
theorem dX11_refuse_7 : decode cX11_refuse 7 = .ok (.invokevirtual 166, 3) := by decide +kernel
theorem dX11_refuse_10 : decode cX11_refuse 10 = .ok (.ifCond .eq 32, 3) := by decide +kernel
theorem dX11_refuse_13 : decode cX11_refuse 13 = .ok (.aload_n 0, 1) := by decide +kernel
theorem dX11_refuse_14 : decode cX11_refuse 14 = .ok (.getfield 35, 3) := by decide +kernel
theorem dX11_refuse_17 : decode cX11_refuse 17 = .ok (.iload_n 1, 1) := by decide +kernel
theorem dX11_refuse_18 : decode cX11_refuse 18 = .ok (.iaload, 1) := by decide +kernel
theorem dX11_refuse_19 : decode cX11_refuse 19 = .ok (.iconst 2, 1) := by decide +kernel
theorem dX11_refuse_20 : decode cX11_refuse 20 = .ok (.if_icmp .eq 22, 3) := by decide +kernel
theorem dX11_refuse_23 : decode cX11_refuse 23 = .ok (.iload_n 2, 1) := by decide +kernel
theorem dX11_refuse_24 : decode cX11_refuse 24 = .ok (.iconst 1, 1) := by decide +kernel
theorem dX11_refuse_25 : decode cX11_refuse 25 = .ok (.bipush 30, 2) := by decide +kernel
theorem dX11_refuse_27 : decode cX11_refuse 27 = .ok (.invokestatic 91, 3) := by decide +kernel
theorem dX11_refuse_30 : decode cX11_refuse 30 = .ok (.ifCond .eq 12, 3) := by decide +kernel
theorem dX11_refuse_33 : decode cX11_refuse 33 = .ok (.aload_n 0, 1) := by decide +kernel
theorem dX11_refuse_34 : decode cX11_refuse 34 = .ok (.getfield 44, 3) := by decide +kernel
theorem dX11_refuse_37 : decode cX11_refuse 37 = .ok (.iload_n 1, 1) := by decide +kernel
theorem dX11_refuse_38 : decode cX11_refuse 38 = .ok (.iaload, 1) := by decide +kernel
theorem dX11_refuse_39 : decode cX11_refuse 39 = .ok (.ifCond .le 5, 3) := by decide +kernel
theorem dX11_refuse_42 : decode cX11_refuse 42 = .ok (.iconst (-1), 1) := by decide +kernel
theorem dX11_refuse_43 : decode cX11_refuse 43 = .ok (.ireturn, 1) := by decide +kernel
theorem dX11_refuse_44 : decode cX11_refuse 44 = .ok (.aload_n 0, 1) := by decide +kernel
theorem dX11_refuse_45 : decode cX11_refuse 45 = .ok (.getfield 44, 3) := by decide +kernel
theorem dX11_refuse_48 : decode cX11_refuse 48 = .ok (.iload_n 1, 1) := by decide +kernel
theorem dX11_refuse_49 : decode cX11_refuse 49 = .ok (.iload_n 2, 1) := by decide +kernel
theorem dX11_refuse_50 : decode cX11_refuse 50 = .ok (.aload_n 0, 1) := by decide +kernel
theorem dX11_refuse_51 : decode cX11_refuse 51 = .ok (.getfield 22, 3) := by decide +kernel
theorem dX11_refuse_54 : decode cX11_refuse 54 = .ok (.aload_n 0, 1) := by decide +kernel
theorem dX11_refuse_55 : decode cX11_refuse 55 = .ok (.getfield 32, 3) := by decide +kernel
theorem dX11_refuse_58 : decode cX11_refuse 58 = .ok (.iload_n 1, 1) := by decide +kernel
theorem dX11_refuse_59 : decode cX11_refuse 59 = .ok (.iaload, 1) := by decide +kernel
theorem dX11_refuse_60 : decode cX11_refuse 60 = .ok (.iaload, 1) := by decide +kernel
theorem dX11_refuse_61 : decode cX11_refuse 61 = .ok (.iadd, 1) := by decide +kernel
theorem dX11_refuse_62 : decode cX11_refuse 62 = .ok (.iastore, 1) := by decide +kernel
theorem dX11_refuse_63 : decode cX11_refuse 63 = .ok (.aload_n 0, 1) := by decide +kernel
theorem dX11_refuse_64 : decode cX11_refuse 64 = .ok (.getfield 44, 3) := by decide +kernel
theorem dX11_refuse_67 : decode cX11_refuse 67 = .ok (.iload_n 1, 1) := by decide +kernel
theorem dX11_refuse_68 : decode cX11_refuse 68 = .ok (.iaload, 1) := by decide +kernel
theorem dX11_refuse_69 : decode cX11_refuse 69 = .ok (.ireturn, 1) := by decide +kernel
theorem dX11_takeBack_0 : decode cX11_takeBack 0 = .ok (.bipush 8, 2) := by decide +kernel
theorem dX11_takeBack_2 : decode cX11_takeBack 2 = .ok (.aload_n 0, 1) := by decide +kernel
theorem dX11_takeBack_3 : decode cX11_takeBack 3 = .ok (.getfield 163, 3) := by decide +kernel
theorem dX11_takeBack_6 : decode cX11_takeBack 6 = .ok (.iconst 1, 1) := by decide +kernel
theorem dX11_takeBack_7 : decode cX11_takeBack 7 = .ok (.isub, 1) := by decide +kernel
theorem dX11_takeBack_8 : decode cX11_takeBack 8 = .ok (.imul, 1) := by decide +kernel
theorem dX11_takeBack_9 : decode cX11_takeBack 9 = .ok (.istore_n 1, 1) := by decide +kernel
theorem dX11_takeBack_10 : decode cX11_takeBack 10 = .ok (.iconst 0, 1) := by decide +kernel
theorem dX11_takeBack_11 : decode cX11_takeBack 11 = .ok (.istore_n 2, 1) := by decide +kernel
theorem dX11_takeBack_12 : decode cX11_takeBack 12 = .ok (.iload_n 2, 1) := by decide +kernel
theorem dX11_takeBack_13 : decode cX11_takeBack 13 = .ok (.aload_n 0, 1) := by decide +kernel
theorem dX11_takeBack_14 : decode cX11_takeBack 14 = .ok (.getfield 88, 3) := by decide +kernel
theorem dX11_takeBack_17 : decode cX11_takeBack 17 = .ok (.if_icmp .ge 107, 3) := by decide +kernel
theorem dX11_takeBack_20 : decode cX11_takeBack 20 = .ok (.aload_n 0, 1) := by decide +kernel
theorem dX11_takeBack_21 : decode cX11_takeBack 21 = .ok (.getfield 47, 3) := by decide +kernel
theorem dX11_takeBack_24 : decode cX11_takeBack 24 = .ok (.iload_n 2, 1) := by decide +kernel
theorem dX11_takeBack_25 : decode cX11_takeBack 25 = .ok (.baload, 1) := by decide +kernel
theorem dX11_takeBack_26 : decode cX11_takeBack 26 = .ok (.ifCond .eq 92, 3) := by decide +kernel
theorem dX11_takeBack_29 : decode cX11_takeBack 29 = .ok (.aload_n 0, 1) := by decide +kernel
theorem dX11_takeBack_30 : decode cX11_takeBack 30 = .ok (.getfield 53, 3) := by decide +kernel
theorem dX11_takeBack_33 : decode cX11_takeBack 33 = .ok (.iload_n 2, 1) := by decide +kernel
theorem dX11_takeBack_34 : decode cX11_takeBack 34 = .ok (.baload, 1) := by decide +kernel
theorem dX11_takeBack_35 : decode cX11_takeBack 35 = .ok (.ifCond .ne 6, 3) := by decide +kernel
theorem dX11_takeBack_38 : decode cX11_takeBack 38 = .ok (.goto 80, 3) := by decide +kernel
theorem dX11_takeBack_41 : decode cX11_takeBack 41 = .ok (.aload_n 0, 1) := by decide +kernel
theorem dX11_takeBack_42 : decode cX11_takeBack 42 = .ok (.getfield 56, 3) := by decide +kernel
theorem dX11_takeBack_45 : decode cX11_takeBack 45 = .ok (.iload_n 1, 1) := by decide +kernel
theorem dX11_takeBack_46 : decode cX11_takeBack 46 = .ok (.iconst 2, 1) := by decide +kernel
theorem dX11_takeBack_47 : decode cX11_takeBack 47 = .ok (.iadd, 1) := by decide +kernel
theorem dX11_takeBack_48 : decode cX11_takeBack 48 = .ok (.dup2, 1) := by decide +kernel
theorem dX11_takeBack_49 : decode cX11_takeBack 49 = .ok (.iaload, 1) := by decide +kernel
theorem dX11_takeBack_50 : decode cX11_takeBack 50 = .ok (.iconst 1, 1) := by decide +kernel
theorem dX11_takeBack_51 : decode cX11_takeBack 51 = .ok (.iadd, 1) := by decide +kernel
theorem dX11_takeBack_52 : decode cX11_takeBack 52 = .ok (.iastore, 1) := by decide +kernel
theorem dX11_takeBack_53 : decode cX11_takeBack 53 = .ok (.aload_n 0, 1) := by decide +kernel
theorem dX11_takeBack_54 : decode cX11_takeBack 54 = .ok (.getfield 56, 3) := by decide +kernel
theorem dX11_takeBack_57 : decode cX11_takeBack 57 = .ok (.iload_n 1, 1) := by decide +kernel
theorem dX11_takeBack_58 : decode cX11_takeBack 58 = .ok (.iconst 4, 1) := by decide +kernel
theorem dX11_takeBack_59 : decode cX11_takeBack 59 = .ok (.iadd, 1) := by decide +kernel
theorem dX11_takeBack_60 : decode cX11_takeBack 60 = .ok (.dup2, 1) := by decide +kernel
theorem dX11_takeBack_61 : decode cX11_takeBack 61 = .ok (.iaload, 1) := by decide +kernel
theorem dX11_takeBack_62 : decode cX11_takeBack 62 = .ok (.iconst 1, 1) := by decide +kernel
theorem dX11_takeBack_63 : decode cX11_takeBack 63 = .ok (.iadd, 1) := by decide +kernel
theorem dX11_takeBack_64 : decode cX11_takeBack 64 = .ok (.iastore, 1) := by decide +kernel
theorem dX11_takeBack_65 : decode cX11_takeBack 65 = .ok (.aload_n 0, 1) := by decide +kernel
theorem dX11_takeBack_66 : decode cX11_takeBack 66 = .ok (.getfield 56, 3) := by decide +kernel
theorem dX11_takeBack_69 : decode cX11_takeBack 69 = .ok (.iload_n 1, 1) := by decide +kernel
theorem dX11_takeBack_70 : decode cX11_takeBack 70 = .ok (.iaload, 1) := by decide +kernel
theorem dX11_takeBack_71 : decode cX11_takeBack 71 = .ok (.istore_n 3, 1) := by decide +kernel
theorem dX11_takeBack_72 : decode cX11_takeBack 72 = .ok (.iload_n 3, 1) := by decide +kernel
theorem dX11_takeBack_73 : decode cX11_takeBack 73 = .ok (.ifCond .ne 6, 3) := by decide +kernel
theorem dX11_takeBack_76 : decode cX11_takeBack 76 = .ok (.goto 42, 3) := by decide +kernel
theorem dX11_takeBack_79 : decode cX11_takeBack 79 = .ok (.aload_n 0, 1) := by decide +kernel
theorem dX11_takeBack_80 : decode cX11_takeBack 80 = .ok (.iload_n 2, 1) := by decide +kernel
theorem dX11_takeBack_81 : decode cX11_takeBack 81 = .ok (.iconst 3, 1) := by decide +kernel
theorem dX11_takeBack_82 : decode cX11_takeBack 82 = .ok (.iload_n 3, 1) := by decide +kernel
theorem dX11_takeBack_83 : decode cX11_takeBack 83 = .ok (.i2l, 1) := by decide +kernel
theorem dX11_takeBack_84 : decode cX11_takeBack 84 = .ok (.invokevirtual 169, 3) := by decide +kernel
theorem dX11_takeBack_87 : decode cX11_takeBack 87 = .ok (.iload_n 3, 1) := by decide +kernel
theorem dX11_takeBack_88 : decode cX11_takeBack 88 = .ok (.aload_n 0, 1) := by decide +kernel
theorem dX11_takeBack_89 : decode cX11_takeBack 89 = .ok (.iconst 1, 1) := by decide +kernel
theorem dX11_takeBack_90 : decode cX11_takeBack 90 = .ok (.aload_n 0, 1) := by decide +kernel
theorem dX11_takeBack_91 : decode cX11_takeBack 91 = .ok (.getfield 163, 3) := by decide +kernel
theorem dX11_takeBack_94 : decode cX11_takeBack 94 = .ok (.invokevirtual 157, 3) := by decide +kernel
theorem dX11_takeBack_97 : decode cX11_takeBack 97 = .ok (.imul, 1) := by decide +kernel
theorem dX11_takeBack_98 : decode cX11_takeBack 98 = .ok (.bipush 100, 2) := by decide +kernel
theorem dX11_takeBack_100 : decode cX11_takeBack 100 = .ok (.idiv, 1) := by decide +kernel
theorem dX11_takeBack_101 : decode cX11_takeBack 101 = .ok (.istore 4, 2) := by decide +kernel
theorem dX11_takeBack_103 : decode cX11_takeBack 103 = .ok (.iload 4, 2) := by decide +kernel
theorem dX11_takeBack_105 : decode cX11_takeBack 105 = .ok (.ifCond .le 13, 3) := by decide +kernel
theorem dX11_takeBack_108 : decode cX11_takeBack 108 = .ok (.aload_n 0, 1) := by decide +kernel
theorem dX11_takeBack_109 : decode cX11_takeBack 109 = .ok (.iload_n 2, 1) := by decide +kernel
theorem dX11_takeBack_110 : decode cX11_takeBack 110 = .ok (.iconst 4, 1) := by decide +kernel
theorem dX11_takeBack_111 : decode cX11_takeBack 111 = .ok (.iload 4, 2) := by decide +kernel
theorem dX11_takeBack_113 : decode cX11_takeBack 113 = .ok (.ineg, 1) := by decide +kernel
theorem dX11_takeBack_114 : decode cX11_takeBack 114 = .ok (.i2l, 1) := by decide +kernel
theorem dX11_takeBack_115 : decode cX11_takeBack 115 = .ok (.invokevirtual 169, 3) := by decide +kernel
theorem dX11_takeBack_118 : decode cX11_takeBack 118 = .ok (.iinc 2 1, 3) := by decide +kernel
theorem dX11_takeBack_121 : decode cX11_takeBack 121 = .ok (.goto (-109), 3) := by decide +kernel
theorem dX11_takeBack_124 : decode cX11_takeBack 124 = .ok (.return_, 1) := by decide +kernel
theorem dX11_sendAll_0 : decode cX11_sendAll 0 = .ok (.bipush 8, 2) := by decide +kernel
theorem dX11_sendAll_2 : decode cX11_sendAll 2 = .ok (.aload_n 0, 1) := by decide +kernel
theorem dX11_sendAll_3 : decode cX11_sendAll 3 = .ok (.getfield 163, 3) := by decide +kernel
theorem dX11_sendAll_6 : decode cX11_sendAll 6 = .ok (.imul, 1) := by decide +kernel
theorem dX11_sendAll_7 : decode cX11_sendAll 7 = .ok (.istore_n 1, 1) := by decide +kernel
theorem dX11_sendAll_8 : decode cX11_sendAll 8 = .ok (.aload_n 0, 1) := by decide +kernel
theorem dX11_sendAll_9 : decode cX11_sendAll 9 = .ok (.getfield 56, 3) := by decide +kernel
theorem dX11_sendAll_12 : decode cX11_sendAll 12 = .ok (.iload_n 1, 1) := by decide +kernel
theorem dX11_sendAll_13 : decode cX11_sendAll 13 = .ok (.iaload, 1) := by decide +kernel
theorem dX11_sendAll_14 : decode cX11_sendAll 14 = .ok (.istore_n 2, 1) := by decide +kernel
theorem dX11_sendAll_15 : decode cX11_sendAll 15 = .ok (.iconst 0, 1) := by decide +kernel
theorem dX11_sendAll_16 : decode cX11_sendAll 16 = .ok (.istore_n 3, 1) := by decide +kernel
theorem dX11_sendAll_17 : decode cX11_sendAll 17 = .ok (.iconst 0, 1) := by decide +kernel
theorem dX11_sendAll_18 : decode cX11_sendAll 18 = .ok (.istore 4, 2) := by decide +kernel
theorem dX11_sendAll_20 : decode cX11_sendAll 20 = .ok (.iload 4, 2) := by decide +kernel
theorem dX11_sendAll_22 : decode cX11_sendAll 22 = .ok (.aload_n 0, 1) := by decide +kernel
theorem dX11_sendAll_23 : decode cX11_sendAll 23 = .ok (.getfield 88, 3) := by decide +kernel
theorem dX11_sendAll_26 : decode cX11_sendAll 26 = .ok (.if_icmp .ge 245, 3) := by decide +kernel
theorem dX11_sendAll_29 : decode cX11_sendAll 29 = .ok (.aload_n 0, 1) := by decide +kernel
theorem dX11_sendAll_30 : decode cX11_sendAll 30 = .ok (.getfield 47, 3) := by decide +kernel
theorem dX11_sendAll_33 : decode cX11_sendAll 33 = .ok (.iload 4, 2) := by decide +kernel
theorem dX11_sendAll_35 : decode cX11_sendAll 35 = .ok (.iconst 0, 1) := by decide +kernel
theorem dX11_sendAll_36 : decode cX11_sendAll 36 = .ok (.bastore, 1) := by decide +kernel
theorem dX11_sendAll_37 : decode cX11_sendAll 37 = .ok (.aload_n 0, 1) := by decide +kernel
theorem dX11_sendAll_38 : decode cX11_sendAll 38 = .ok (.getfield 50, 3) := by decide +kernel
theorem dX11_sendAll_41 : decode cX11_sendAll 41 = .ok (.iload 4, 2) := by decide +kernel
theorem dX11_sendAll_43 : decode cX11_sendAll 43 = .ok (.iconst 0, 1) := by decide +kernel
theorem dX11_sendAll_44 : decode cX11_sendAll 44 = .ok (.bastore, 1) := by decide +kernel
theorem dX11_sendAll_45 : decode cX11_sendAll 45 = .ok (.aload_n 0, 1) := by decide +kernel
theorem dX11_sendAll_46 : decode cX11_sendAll 46 = .ok (.getfield 53, 3) := by decide +kernel
theorem dX11_sendAll_49 : decode cX11_sendAll 49 = .ok (.iload 4, 2) := by decide +kernel
theorem dX11_sendAll_51 : decode cX11_sendAll 51 = .ok (.aload_n 0, 1) := by decide +kernel
theorem dX11_sendAll_52 : decode cX11_sendAll 52 = .ok (.getfield 44, 3) := by decide +kernel
theorem dX11_sendAll_55 : decode cX11_sendAll 55 = .ok (.iload 4, 2) := by decide +kernel
theorem dX11_sendAll_57 : decode cX11_sendAll 57 = .ok (.iaload, 1) := by decide +kernel
theorem dX11_sendAll_58 : decode cX11_sendAll 58 = .ok (.ifCond .le 7, 3) := by decide +kernel
theorem dX11_sendAll_61 : decode cX11_sendAll 61 = .ok (.iconst 1, 1) := by decide +kernel
theorem dX11_sendAll_62 : decode cX11_sendAll 62 = .ok (.goto 4, 3) := by decide +kernel
theorem dX11_sendAll_65 : decode cX11_sendAll 65 = .ok (.iconst 0, 1) := by decide +kernel
theorem dX11_sendAll_66 : decode cX11_sendAll 66 = .ok (.bastore, 1) := by decide +kernel
theorem dX11_sendAll_67 : decode cX11_sendAll 67 = .ok (.aload_n 0, 1) := by decide +kernel
theorem dX11_sendAll_68 : decode cX11_sendAll 68 = .ok (.getfield 35, 3) := by decide +kernel
theorem dX11_sendAll_71 : decode cX11_sendAll 71 = .ok (.iload 4, 2) := by decide +kernel
theorem dX11_sendAll_73 : decode cX11_sendAll 73 = .ok (.iaload, 1) := by decide +kernel
theorem dX11_sendAll_74 : decode cX11_sendAll 74 = .ok (.ifCond .ne 191, 3) := by decide +kernel
theorem dX11_sendAll_77 : decode cX11_sendAll 77 = .ok (.aload_n 0, 1) := by decide +kernel
theorem dX11_sendAll_78 : decode cX11_sendAll 78 = .ok (.getfield 44, 3) := by decide +kernel
theorem dX11_sendAll_81 : decode cX11_sendAll 81 = .ok (.iload 4, 2) := by decide +kernel
theorem dX11_sendAll_83 : decode cX11_sendAll 83 = .ok (.iaload, 1) := by decide +kernel
theorem dX11_sendAll_84 : decode cX11_sendAll 84 = .ok (.ifCond .le 25, 3) := by decide +kernel
theorem dX11_sendAll_87 : decode cX11_sendAll 87 = .ok (.aload_n 0, 1) := by decide +kernel
theorem dX11_sendAll_88 : decode cX11_sendAll 88 = .ok (.getfield 44, 3) := by decide +kernel
theorem dX11_sendAll_91 : decode cX11_sendAll 91 = .ok (.iload 4, 2) := by decide +kernel
theorem dX11_sendAll_93 : decode cX11_sendAll 93 = .ok (.iaload, 1) := by decide +kernel
theorem dX11_sendAll_94 : decode cX11_sendAll 94 = .ok (.aload_n 0, 1) := by decide +kernel
theorem dX11_sendAll_95 : decode cX11_sendAll 95 = .ok (.iconst 0, 1) := by decide +kernel
theorem dX11_sendAll_96 : decode cX11_sendAll 96 = .ok (.aload_n 0, 1) := by decide +kernel
theorem dX11_sendAll_97 : decode cX11_sendAll 97 = .ok (.getfield 163, 3) := by decide +kernel
theorem dX11_sendAll_100 : decode cX11_sendAll 100 = .ok (.invokevirtual 157, 3) := by decide +kernel
theorem dX11_sendAll_103 : decode cX11_sendAll 103 = .ok (.if_icmp .gt 6, 3) := by decide +kernel
theorem dX11_sendAll_106 : decode cX11_sendAll 106 = .ok (.goto 159, 3) := by decide +kernel
theorem dX11_sendAll_109 : decode cX11_sendAll 109 = .ok (.aload_n 0, 1) := by decide +kernel
theorem dX11_sendAll_110 : decode cX11_sendAll 110 = .ok (.getfield 56, 3) := by decide +kernel
theorem dX11_sendAll_113 : decode cX11_sendAll 113 = .ok (.iload_n 1, 1) := by decide +kernel
theorem dX11_sendAll_114 : decode cX11_sendAll 114 = .ok (.iconst 2, 1) := by decide +kernel
theorem dX11_sendAll_115 : decode cX11_sendAll 115 = .ok (.iadd, 1) := by decide +kernel
theorem dX11_sendAll_116 : decode cX11_sendAll 116 = .ok (.iaload, 1) := by decide +kernel
theorem dX11_sendAll_117 : decode cX11_sendAll 117 = .ok (.ifCond .ne 27, 3) := by decide +kernel
theorem dX11_sendAll_120 : decode cX11_sendAll 120 = .ok (.aload_n 0, 1) := by decide +kernel
theorem dX11_sendAll_121 : decode cX11_sendAll 121 = .ok (.getfield 50, 3) := by decide +kernel
theorem dX11_sendAll_124 : decode cX11_sendAll 124 = .ok (.iload 4, 2) := by decide +kernel
theorem dX11_sendAll_126 : decode cX11_sendAll 126 = .ok (.iconst 1, 1) := by decide +kernel
theorem dX11_sendAll_127 : decode cX11_sendAll 127 = .ok (.bastore, 1) := by decide +kernel
theorem dX11_sendAll_128 : decode cX11_sendAll 128 = .ok (.aload_n 0, 1) := by decide +kernel
theorem dX11_sendAll_129 : decode cX11_sendAll 129 = .ok (.getfield 56, 3) := by decide +kernel
theorem dX11_sendAll_132 : decode cX11_sendAll 132 = .ok (.iload_n 1, 1) := by decide +kernel
theorem dX11_sendAll_133 : decode cX11_sendAll 133 = .ok (.bipush 7, 2) := by decide +kernel
theorem dX11_sendAll_135 : decode cX11_sendAll 135 = .ok (.iadd, 1) := by decide +kernel
theorem dX11_sendAll_136 : decode cX11_sendAll 136 = .ok (.dup2, 1) := by decide +kernel
theorem dX11_sendAll_137 : decode cX11_sendAll 137 = .ok (.iaload, 1) := by decide +kernel
theorem dX11_sendAll_138 : decode cX11_sendAll 138 = .ok (.iconst 1, 1) := by decide +kernel
theorem dX11_sendAll_139 : decode cX11_sendAll 139 = .ok (.iadd, 1) := by decide +kernel
theorem dX11_sendAll_140 : decode cX11_sendAll 140 = .ok (.iastore, 1) := by decide +kernel
theorem dX11_sendAll_141 : decode cX11_sendAll 141 = .ok (.goto 124, 3) := by decide +kernel
theorem dX11_sendAll_144 : decode cX11_sendAll 144 = .ok (.aload_n 0, 1) := by decide +kernel
theorem dX11_sendAll_145 : decode cX11_sendAll 145 = .ok (.getfield 47, 3) := by decide +kernel
theorem dX11_sendAll_148 : decode cX11_sendAll 148 = .ok (.iload 4, 2) := by decide +kernel
theorem dX11_sendAll_150 : decode cX11_sendAll 150 = .ok (.iconst 1, 1) := by decide +kernel
theorem dX11_sendAll_151 : decode cX11_sendAll 151 = .ok (.bastore, 1) := by decide +kernel
theorem dX11_sendAll_152 : decode cX11_sendAll 152 = .ok (.aload_n 0, 1) := by decide +kernel
theorem dX11_sendAll_153 : decode cX11_sendAll 153 = .ok (.getfield 56, 3) := by decide +kernel
theorem dX11_sendAll_156 : decode cX11_sendAll 156 = .ok (.iload_n 1, 1) := by decide +kernel
theorem dX11_sendAll_157 : decode cX11_sendAll 157 = .ok (.iconst 2, 1) := by decide +kernel
theorem dX11_sendAll_158 : decode cX11_sendAll 158 = .ok (.iadd, 1) := by decide +kernel
theorem dX11_sendAll_159 : decode cX11_sendAll 159 = .ok (.dup2, 1) := by decide +kernel
theorem dX11_sendAll_160 : decode cX11_sendAll 160 = .ok (.iaload, 1) := by decide +kernel
theorem dX11_sendAll_161 : decode cX11_sendAll 161 = .ok (.iconst 1, 1) := by decide +kernel
theorem dX11_sendAll_162 : decode cX11_sendAll 162 = .ok (.isub, 1) := by decide +kernel
theorem dX11_sendAll_163 : decode cX11_sendAll 163 = .ok (.iastore, 1) := by decide +kernel
theorem dX11_sendAll_164 : decode cX11_sendAll 164 = .ok (.aload_n 0, 1) := by decide +kernel
theorem dX11_sendAll_165 : decode cX11_sendAll 165 = .ok (.getfield 56, 3) := by decide +kernel
theorem dX11_sendAll_168 : decode cX11_sendAll 168 = .ok (.iload_n 1, 1) := by decide +kernel
theorem dX11_sendAll_169 : decode cX11_sendAll 169 = .ok (.iconst 3, 1) := by decide +kernel
theorem dX11_sendAll_170 : decode cX11_sendAll 170 = .ok (.iadd, 1) := by decide +kernel
theorem dX11_sendAll_171 : decode cX11_sendAll 171 = .ok (.dup2, 1) := by decide +kernel
theorem dX11_sendAll_172 : decode cX11_sendAll 172 = .ok (.iaload, 1) := by decide +kernel
theorem dX11_sendAll_173 : decode cX11_sendAll 173 = .ok (.iconst 1, 1) := by decide +kernel
theorem dX11_sendAll_174 : decode cX11_sendAll 174 = .ok (.iadd, 1) := by decide +kernel
theorem dX11_sendAll_175 : decode cX11_sendAll 175 = .ok (.iastore, 1) := by decide +kernel
theorem dX11_sendAll_176 : decode cX11_sendAll 176 = .ok (.iinc 3 1, 3) := by decide +kernel
theorem dX11_sendAll_179 : decode cX11_sendAll 179 = .ok (.iload_n 2, 1) := by decide +kernel
theorem dX11_sendAll_180 : decode cX11_sendAll 180 = .ok (.ifCond .le 13, 3) := by decide +kernel
theorem dX11_sendAll_183 : decode cX11_sendAll 183 = .ok (.aload_n 0, 1) := by decide +kernel
theorem dX11_sendAll_184 : decode cX11_sendAll 184 = .ok (.iload 4, 2) := by decide +kernel
theorem dX11_sendAll_186 : decode cX11_sendAll 186 = .ok (.iconst 2, 1) := by decide +kernel
theorem dX11_sendAll_187 : decode cX11_sendAll 187 = .ok (.iload_n 2, 1) := by decide +kernel
theorem dX11_sendAll_188 : decode cX11_sendAll 188 = .ok (.ineg, 1) := by decide +kernel
theorem dX11_sendAll_189 : decode cX11_sendAll 189 = .ok (.i2l, 1) := by decide +kernel
theorem dX11_sendAll_190 : decode cX11_sendAll 190 = .ok (.invokevirtual 169, 3) := by decide +kernel
theorem dX11_sendAll_193 : decode cX11_sendAll 193 = .ok (.aload_n 0, 1) := by decide +kernel
theorem dX11_sendAll_194 : decode cX11_sendAll 194 = .ok (.getfield 38, 3) := by decide +kernel
theorem dX11_sendAll_197 : decode cX11_sendAll 197 = .ok (.iload 4, 2) := by decide +kernel
theorem dX11_sendAll_199 : decode cX11_sendAll 199 = .ok (.dup2, 1) := by decide +kernel
theorem dX11_sendAll_200 : decode cX11_sendAll 200 = .ok (.iaload, 1) := by decide +kernel
theorem dX11_sendAll_201 : decode cX11_sendAll 201 = .ok (.iconst 1, 1) := by decide +kernel
theorem dX11_sendAll_202 : decode cX11_sendAll 202 = .ok (.iadd, 1) := by decide +kernel
theorem dX11_sendAll_203 : decode cX11_sendAll 203 = .ok (.iastore, 1) := by decide +kernel
theorem dX11_sendAll_204 : decode cX11_sendAll 204 = .ok (.aload_n 0, 1) := by decide +kernel
theorem dX11_sendAll_205 : decode cX11_sendAll 205 = .ok (.iconst 2, 1) := by decide +kernel
theorem dX11_sendAll_206 : decode cX11_sendAll 206 = .ok (.aload_n 0, 1) := by decide +kernel
theorem dX11_sendAll_207 : decode cX11_sendAll 207 = .ok (.getfield 163, 3) := by decide +kernel
theorem dX11_sendAll_210 : decode cX11_sendAll 210 = .ok (.invokevirtual 157, 3) := by decide +kernel
theorem dX11_sendAll_213 : decode cX11_sendAll 213 = .ok (.istore 5, 2) := by decide +kernel
theorem dX11_sendAll_215 : decode cX11_sendAll 215 = .ok (.aload_n 0, 1) := by decide +kernel
theorem dX11_sendAll_216 : decode cX11_sendAll 216 = .ok (.bipush 7, 2) := by decide +kernel
theorem dX11_sendAll_218 : decode cX11_sendAll 218 = .ok (.aload_n 0, 1) := by decide +kernel
theorem dX11_sendAll_219 : decode cX11_sendAll 219 = .ok (.getfield 163, 3) := by decide +kernel
theorem dX11_sendAll_222 : decode cX11_sendAll 222 = .ok (.invokevirtual 157, 3) := by decide +kernel
theorem dX11_sendAll_225 : decode cX11_sendAll 225 = .ok (.iload_n 2, 1) := by decide +kernel
theorem dX11_sendAll_226 : decode cX11_sendAll 226 = .ok (.imul, 1) := by decide +kernel
theorem dX11_sendAll_227 : decode cX11_sendAll 227 = .ok (.bipush 100, 2) := by decide +kernel
theorem dX11_sendAll_229 : decode cX11_sendAll 229 = .ok (.idiv, 1) := by decide +kernel
theorem dX11_sendAll_230 : decode cX11_sendAll 230 = .ok (.istore 6, 2) := by decide +kernel
theorem dX11_sendAll_232 : decode cX11_sendAll 232 = .ok (.iload 5, 2) := by decide +kernel
theorem dX11_sendAll_234 : decode cX11_sendAll 234 = .ok (.ifCond .le 31, 3) := by decide +kernel
theorem dX11_sendAll_237 : decode cX11_sendAll 237 = .ok (.aload_n 0, 1) := by decide +kernel
theorem dX11_sendAll_238 : decode cX11_sendAll 238 = .ok (.getfield 38, 3) := by decide +kernel
theorem dX11_sendAll_241 : decode cX11_sendAll 241 = .ok (.iload 4, 2) := by decide +kernel
theorem dX11_sendAll_243 : decode cX11_sendAll 243 = .ok (.iaload, 1) := by decide +kernel
theorem dX11_sendAll_244 : decode cX11_sendAll 244 = .ok (.iload 5, 2) := by decide +kernel
theorem dX11_sendAll_246 : decode cX11_sendAll 246 = .ok (.irem, 1) := by decide +kernel
theorem dX11_sendAll_247 : decode cX11_sendAll 247 = .ok (.ifCond .ne 18, 3) := by decide +kernel
theorem dX11_sendAll_250 : decode cX11_sendAll 250 = .ok (.iload 6, 2) := by decide +kernel
theorem dX11_sendAll_252 : decode cX11_sendAll 252 = .ok (.ifCond .le 13, 3) := by decide +kernel
theorem dX11_sendAll_255 : decode cX11_sendAll 255 = .ok (.aload_n 0, 1) := by decide +kernel
theorem dX11_sendAll_256 : decode cX11_sendAll 256 = .ok (.iload 4, 2) := by decide +kernel
theorem dX11_sendAll_258 : decode cX11_sendAll 258 = .ok (.iconst 5, 1) := by decide +kernel
theorem dX11_sendAll_259 : decode cX11_sendAll 259 = .ok (.iload 6, 2) := by decide +kernel
theorem dX11_sendAll_261 : decode cX11_sendAll 261 = .ok (.i2l, 1) := by decide +kernel
theorem dX11_sendAll_262 : decode cX11_sendAll 262 = .ok (.invokevirtual 169, 3) := by decide +kernel
theorem dX11_sendAll_265 : decode cX11_sendAll 265 = .ok (.iinc 4 1, 3) := by decide +kernel
theorem dX11_sendAll_268 : decode cX11_sendAll 268 = .ok (.goto (-248), 3) := by decide +kernel
theorem dX11_sendAll_271 : decode cX11_sendAll 271 = .ok (.iload_n 3, 1) := by decide +kernel
theorem dX11_sendAll_272 : decode cX11_sendAll 272 = .ok (.ireturn, 1) := by decide +kernel
theorem dX11_dun_0 : decode cX11_dun 0 = .ok (.iconst 0, 1) := by decide +kernel
theorem dX11_dun_1 : decode cX11_dun 1 = .ok (.istore_n 1, 1) := by decide +kernel
theorem dX11_dun_2 : decode cX11_dun 2 = .ok (.iload_n 1, 1) := by decide +kernel
theorem dX11_dun_3 : decode cX11_dun 3 = .ok (.aload_n 0, 1) := by decide +kernel
theorem dX11_dun_4 : decode cX11_dun 4 = .ok (.getfield 88, 3) := by decide +kernel
theorem dX11_dun_7 : decode cX11_dun 7 = .ok (.if_icmp .ge 123, 3) := by decide +kernel
theorem dX11_dun_10 : decode cX11_dun 10 = .ok (.aload_n 0, 1) := by decide +kernel
theorem dX11_dun_11 : decode cX11_dun 11 = .ok (.getfield 35, 3) := by decide +kernel
theorem dX11_dun_14 : decode cX11_dun 14 = .ok (.iload_n 1, 1) := by decide +kernel
theorem dX11_dun_15 : decode cX11_dun 15 = .ok (.iaload, 1) := by decide +kernel
theorem dX11_dun_16 : decode cX11_dun 16 = .ok (.iconst 2, 1) := by decide +kernel
theorem dX11_dun_17 : decode cX11_dun 17 = .ok (.if_icmp .ne 6, 3) := by decide +kernel
theorem dX11_dun_20 : decode cX11_dun 20 = .ok (.goto 104, 3) := by decide +kernel
theorem dX11_dun_23 : decode cX11_dun 23 = .ok (.aload_n 0, 1) := by decide +kernel
theorem dX11_dun_24 : decode cX11_dun 24 = .ok (.iload_n 1, 1) := by decide +kernel
theorem dX11_dun_25 : decode cX11_dun 25 = .ok (.invokevirtual 179, 3) := by decide +kernel
theorem dX11_dun_28 : decode cX11_dun 28 = .ok (.ifCond .ne 20, 3) := by decide +kernel
theorem dX11_dun_31 : decode cX11_dun 31 = .ok (.aload_n 0, 1) := by decide +kernel
theorem dX11_dun_32 : decode cX11_dun 32 = .ok (.getfield 41, 3) := by decide +kernel
theorem dX11_dun_35 : decode cX11_dun 35 = .ok (.iload_n 1, 1) := by decide +kernel
theorem dX11_dun_36 : decode cX11_dun 36 = .ok (.iconst 0, 1) := by decide +kernel
theorem dX11_dun_37 : decode cX11_dun 37 = .ok (.iastore, 1) := by decide +kernel
theorem dX11_dun_38 : decode cX11_dun 38 = .ok (.aload_n 0, 1) := by decide +kernel
theorem dX11_dun_39 : decode cX11_dun 39 = .ok (.getfield 35, 3) := by decide +kernel
theorem dX11_dun_42 : decode cX11_dun 42 = .ok (.iload_n 1, 1) := by decide +kernel
theorem dX11_dun_43 : decode cX11_dun 43 = .ok (.iconst 0, 1) := by decide +kernel
theorem dX11_dun_44 : decode cX11_dun 44 = .ok (.iastore, 1) := by decide +kernel
theorem dX11_dun_45 : decode cX11_dun 45 = .ok (.goto 79, 3) := by decide +kernel
theorem dX11_dun_48 : decode cX11_dun 48 = .ok (.aload_n 0, 1) := by decide +kernel
theorem dX11_dun_49 : decode cX11_dun 49 = .ok (.getfield 41, 3) := by decide +kernel
theorem dX11_dun_52 : decode cX11_dun 52 = .ok (.iload_n 1, 1) := by decide +kernel
theorem dX11_dun_53 : decode cX11_dun 53 = .ok (.dup2, 1) := by decide +kernel
theorem dX11_dun_54 : decode cX11_dun 54 = .ok (.iaload, 1) := by decide +kernel
theorem dX11_dun_55 : decode cX11_dun 55 = .ok (.iconst 1, 1) := by decide +kernel
theorem dX11_dun_56 : decode cX11_dun 56 = .ok (.iadd, 1) := by decide +kernel
theorem dX11_dun_57 : decode cX11_dun 57 = .ok (.iastore, 1) := by decide +kernel
theorem dX11_dun_58 : decode cX11_dun 58 = .ok (.aload_n 0, 1) := by decide +kernel
theorem dX11_dun_59 : decode cX11_dun 59 = .ok (.bipush 6, 2) := by decide +kernel
theorem dX11_dun_61 : decode cX11_dun 61 = .ok (.aload_n 0, 1) := by decide +kernel
theorem dX11_dun_62 : decode cX11_dun 62 = .ok (.getfield 163, 3) := by decide +kernel
theorem dX11_dun_65 : decode cX11_dun 65 = .ok (.invokevirtual 157, 3) := by decide +kernel
theorem dX11_dun_68 : decode cX11_dun 68 = .ok (.istore_n 2, 1) := by decide +kernel
theorem dX11_dun_69 : decode cX11_dun 69 = .ok (.aload_n 0, 1) := by decide +kernel
theorem dX11_dun_70 : decode cX11_dun 70 = .ok (.iconst 5, 1) := by decide +kernel
theorem dX11_dun_71 : decode cX11_dun 71 = .ok (.aload_n 0, 1) := by decide +kernel
theorem dX11_dun_72 : decode cX11_dun 72 = .ok (.getfield 163, 3) := by decide +kernel
theorem dX11_dun_75 : decode cX11_dun 75 = .ok (.invokevirtual 157, 3) := by decide +kernel
theorem dX11_dun_78 : decode cX11_dun 78 = .ok (.istore_n 3, 1) := by decide +kernel
theorem dX11_dun_79 : decode cX11_dun 79 = .ok (.iload_n 2, 1) := by decide +kernel
theorem dX11_dun_80 : decode cX11_dun 80 = .ok (.ifCond .le 23, 3) := by decide +kernel
theorem dX11_dun_83 : decode cX11_dun 83 = .ok (.aload_n 0, 1) := by decide +kernel
theorem dX11_dun_84 : decode cX11_dun 84 = .ok (.getfield 41, 3) := by decide +kernel
theorem dX11_dun_87 : decode cX11_dun 87 = .ok (.iload_n 1, 1) := by decide +kernel
theorem dX11_dun_88 : decode cX11_dun 88 = .ok (.iaload, 1) := by decide +kernel
theorem dX11_dun_89 : decode cX11_dun 89 = .ok (.iload_n 2, 1) := by decide +kernel
theorem dX11_dun_90 : decode cX11_dun 90 = .ok (.if_icmp .lt 13, 3) := by decide +kernel
theorem dX11_dun_93 : decode cX11_dun 93 = .ok (.aload_n 0, 1) := by decide +kernel
theorem dX11_dun_94 : decode cX11_dun 94 = .ok (.getfield 35, 3) := by decide +kernel
theorem dX11_dun_97 : decode cX11_dun 97 = .ok (.iload_n 1, 1) := by decide +kernel
theorem dX11_dun_98 : decode cX11_dun 98 = .ok (.iconst 2, 1) := by decide +kernel
theorem dX11_dun_99 : decode cX11_dun 99 = .ok (.iastore, 1) := by decide +kernel
theorem dX11_dun_100 : decode cX11_dun 100 = .ok (.goto 24, 3) := by decide +kernel
theorem dX11_dun_103 : decode cX11_dun 103 = .ok (.iload_n 3, 1) := by decide +kernel
theorem dX11_dun_104 : decode cX11_dun 104 = .ok (.ifCond .le 20, 3) := by decide +kernel
theorem dX11_dun_107 : decode cX11_dun 107 = .ok (.aload_n 0, 1) := by decide +kernel
theorem dX11_dun_108 : decode cX11_dun 108 = .ok (.getfield 41, 3) := by decide +kernel
theorem dX11_dun_111 : decode cX11_dun 111 = .ok (.iload_n 1, 1) := by decide +kernel
theorem dX11_dun_112 : decode cX11_dun 112 = .ok (.iaload, 1) := by decide +kernel
theorem dX11_dun_113 : decode cX11_dun 113 = .ok (.iload_n 3, 1) := by decide +kernel
theorem dX11_dun_114 : decode cX11_dun 114 = .ok (.if_icmp .lt 10, 3) := by decide +kernel
theorem dX11_dun_117 : decode cX11_dun 117 = .ok (.aload_n 0, 1) := by decide +kernel
theorem dX11_dun_118 : decode cX11_dun 118 = .ok (.getfield 35, 3) := by decide +kernel
theorem dX11_dun_121 : decode cX11_dun 121 = .ok (.iload_n 1, 1) := by decide +kernel
theorem dX11_dun_122 : decode cX11_dun 122 = .ok (.iconst 1, 1) := by decide +kernel
theorem dX11_dun_123 : decode cX11_dun 123 = .ok (.iastore, 1) := by decide +kernel
theorem dX11_dun_124 : decode cX11_dun 124 = .ok (.iinc 1 1, 3) := by decide +kernel
theorem dX11_dun_127 : decode cX11_dun 127 = .ok (.goto (-125), 3) := by decide +kernel
theorem dX11_dun_130 : decode cX11_dun 130 = .ok (.return_, 1) := by decide +kernel
theorem dX11_close_0 : decode cX11_close 0 = .ok (.aload_n 0, 1) := by decide +kernel
theorem dX11_close_1 : decode cX11_close 1 = .ok (.iconst 0, 1) := by decide +kernel
theorem dX11_close_2 : decode cX11_close 2 = .ok (.putfield 84, 3) := by decide +kernel
theorem dX11_close_5 : decode cX11_close 5 = .ok (.aload_n 0, 1) := by decide +kernel
theorem dX11_close_6 : decode cX11_close 6 = .ok (.getfield 163, 3) := by decide +kernel
theorem dX11_close_9 : decode cX11_close 9 = .ok (.bipush 60, 2) := by decide +kernel
theorem dX11_close_11 : decode cX11_close 11 = .ok (.if_icmp .eq 17, 3) := by decide +kernel
theorem dX11_close_14 : decode cX11_close 14 = .ok (.sipush 900, 3) := by decide +kernel
theorem dX11_close_17 : decode cX11_close 17 = .ok (.aload_n 0, 1) := by decide +kernel
theorem dX11_close_18 : decode cX11_close 18 = .ok (.getfield 160, 3) := by decide +kernel
theorem dX11_close_21 : decode cX11_close 21 = .ok (.isub, 1) := by decide +kernel
theorem dX11_close_22 : decode cX11_close 22 = .ok (.sipush 200, 3) := by decide +kernel
theorem dX11_close_25 : decode cX11_close 25 = .ok (.if_icmp .ge 5, 3) := by decide +kernel
theorem dX11_close_28 : decode cX11_close 28 = .ok (.iconst (-1), 1) := by decide +kernel
theorem dX11_close_29 : decode cX11_close 29 = .ok (.ireturn, 1) := by decide +kernel
theorem dX11_close_30 : decode cX11_close 30 = .ok (.aload_n 0, 1) := by decide +kernel
theorem dX11_close_31 : decode cX11_close 31 = .ok (.getfield 163, 3) := by decide +kernel
theorem dX11_close_34 : decode cX11_close 34 = .ok (.ifCond .le 7, 3) := by decide +kernel
theorem dX11_close_37 : decode cX11_close 37 = .ok (.aload_n 0, 1) := by decide +kernel
theorem dX11_close_38 : decode cX11_close 38 = .ok (.invokevirtual 184, 3) := by decide +kernel
theorem dX11_close_41 : decode cX11_close 41 = .ok (.aload_n 0, 1) := by decide +kernel
theorem dX11_close_42 : decode cX11_close 42 = .ok (.invokevirtual 187, 3) := by decide +kernel
theorem dX11_close_45 : decode cX11_close 45 = .ok (.istore_n 1, 1) := by decide +kernel
theorem dX11_close_46 : decode cX11_close 46 = .ok (.aload_n 0, 1) := by decide +kernel
theorem dX11_close_47 : decode cX11_close 47 = .ok (.invokevirtual 190, 3) := by decide +kernel
theorem dX11_close_50 : decode cX11_close 50 = .ok (.aload_n 0, 1) := by decide +kernel
theorem dX11_close_51 : decode cX11_close 51 = .ok (.dup, 1) := by decide +kernel
theorem dX11_close_52 : decode cX11_close 52 = .ok (.getfield 163, 3) := by decide +kernel
theorem dX11_close_55 : decode cX11_close 55 = .ok (.iconst 1, 1) := by decide +kernel
theorem dX11_close_56 : decode cX11_close 56 = .ok (.iadd, 1) := by decide +kernel
theorem dX11_close_57 : decode cX11_close 57 = .ok (.putfield 163, 3) := by decide +kernel
theorem dX11_close_60 : decode cX11_close 60 = .ok (.iconst 0, 1) := by decide +kernel
theorem dX11_close_61 : decode cX11_close 61 = .ok (.istore_n 2, 1) := by decide +kernel
theorem dX11_close_62 : decode cX11_close 62 = .ok (.iload_n 2, 1) := by decide +kernel
theorem dX11_close_63 : decode cX11_close 63 = .ok (.aload_n 0, 1) := by decide +kernel
theorem dX11_close_64 : decode cX11_close 64 = .ok (.getfield 88, 3) := by decide +kernel
theorem dX11_close_67 : decode cX11_close 67 = .ok (.if_icmp .ge 16, 3) := by decide +kernel
theorem dX11_close_70 : decode cX11_close 70 = .ok (.aload_n 0, 1) := by decide +kernel
theorem dX11_close_71 : decode cX11_close 71 = .ok (.getfield 44, 3) := by decide +kernel
theorem dX11_close_74 : decode cX11_close 74 = .ok (.iload_n 2, 1) := by decide +kernel
theorem dX11_close_75 : decode cX11_close 75 = .ok (.iconst 0, 1) := by decide +kernel
theorem dX11_close_76 : decode cX11_close 76 = .ok (.iastore, 1) := by decide +kernel
theorem dX11_close_77 : decode cX11_close 77 = .ok (.iinc 2 1, 3) := by decide +kernel
theorem dX11_close_80 : decode cX11_close 80 = .ok (.goto (-18), 3) := by decide +kernel
theorem dX11_close_83 : decode cX11_close 83 = .ok (.iload_n 1, 1) := by decide +kernel
theorem dX11_close_84 : decode cX11_close 84 = .ok (.ireturn, 1) := by decide +kernel
theorem dX11_clear_0 : decode cX11_clear 0 = .ok (.aload_n 0, 1) := by decide +kernel
theorem dX11_clear_1 : decode cX11_clear 1 = .ok (.iconst 0, 1) := by decide +kernel
theorem dX11_clear_2 : decode cX11_clear 2 = .ok (.putfield 84, 3) := by decide +kernel
theorem dX11_clear_5 : decode cX11_clear 5 = .ok (.iload_n 1, 1) := by decide +kernel
theorem dX11_clear_6 : decode cX11_clear 6 = .ok (.iconst 0, 1) := by decide +kernel
theorem dX11_clear_7 : decode cX11_clear 7 = .ok (.aload_n 0, 1) := by decide +kernel
theorem dX11_clear_8 : decode cX11_clear 8 = .ok (.getfield 163, 3) := by decide +kernel
theorem dX11_clear_11 : decode cX11_clear 11 = .ok (.invokestatic 91, 3) := by decide +kernel
theorem dX11_clear_14 : decode cX11_clear 14 = .ok (.ifCond .eq 31, 3) := by decide +kernel
theorem dX11_clear_17 : decode cX11_clear 17 = .ok (.iload_n 2, 1) := by decide +kernel
theorem dX11_clear_18 : decode cX11_clear 18 = .ok (.iconst 0, 1) := by decide +kernel
theorem dX11_clear_19 : decode cX11_clear 19 = .ok (.iconst 1, 1) := by decide +kernel
theorem dX11_clear_20 : decode cX11_clear 20 = .ok (.invokestatic 91, 3) := by decide +kernel
theorem dX11_clear_23 : decode cX11_clear 23 = .ok (.ifCond .eq 22, 3) := by decide +kernel
theorem dX11_clear_26 : decode cX11_clear 26 = .ok (.iload_n 3, 1) := by decide +kernel
theorem dX11_clear_27 : decode cX11_clear 27 = .ok (.iconst 0, 1) := by decide +kernel
theorem dX11_clear_28 : decode cX11_clear 28 = .ok (.aload_n 0, 1) := by decide +kernel
theorem dX11_clear_29 : decode cX11_clear 29 = .ok (.getfield 56, 3) := by decide +kernel
theorem dX11_clear_32 : decode cX11_clear 32 = .ok (.bipush 8, 2) := by decide +kernel
theorem dX11_clear_34 : decode cX11_clear 34 = .ok (.iload_n 1, 1) := by decide +kernel
theorem dX11_clear_35 : decode cX11_clear 35 = .ok (.imul, 1) := by decide +kernel
theorem dX11_clear_36 : decode cX11_clear 36 = .ok (.iconst 2, 1) := by decide +kernel
theorem dX11_clear_37 : decode cX11_clear 37 = .ok (.iadd, 1) := by decide +kernel
theorem dX11_clear_38 : decode cX11_clear 38 = .ok (.iaload, 1) := by decide +kernel
theorem dX11_clear_39 : decode cX11_clear 39 = .ok (.invokestatic 91, 3) := by decide +kernel
theorem dX11_clear_42 : decode cX11_clear 42 = .ok (.ifCond .ne 5, 3) := by decide +kernel
theorem dX11_clear_45 : decode cX11_clear 45 = .ok (.iconst (-1), 1) := by decide +kernel
theorem dX11_clear_46 : decode cX11_clear 46 = .ok (.ireturn, 1) := by decide +kernel
theorem dX11_clear_47 : decode cX11_clear 47 = .ok (.aload_n 0, 1) := by decide +kernel
theorem dX11_clear_48 : decode cX11_clear 48 = .ok (.getfield 56, 3) := by decide +kernel
theorem dX11_clear_51 : decode cX11_clear 51 = .ok (.bipush 8, 2) := by decide +kernel
theorem dX11_clear_53 : decode cX11_clear 53 = .ok (.iload_n 1, 1) := by decide +kernel
theorem dX11_clear_54 : decode cX11_clear 54 = .ok (.imul, 1) := by decide +kernel
theorem dX11_clear_55 : decode cX11_clear 55 = .ok (.iconst 2, 1) := by decide +kernel
theorem dX11_clear_56 : decode cX11_clear 56 = .ok (.iadd, 1) := by decide +kernel
theorem dX11_clear_57 : decode cX11_clear 57 = .ok (.dup2, 1) := by decide +kernel
theorem dX11_clear_58 : decode cX11_clear 58 = .ok (.iaload, 1) := by decide +kernel
theorem dX11_clear_59 : decode cX11_clear 59 = .ok (.iload_n 3, 1) := by decide +kernel
theorem dX11_clear_60 : decode cX11_clear 60 = .ok (.isub, 1) := by decide +kernel
theorem dX11_clear_61 : decode cX11_clear 61 = .ok (.iastore, 1) := by decide +kernel
theorem dX11_clear_62 : decode cX11_clear 62 = .ok (.aload_n 0, 1) := by decide +kernel
theorem dX11_clear_63 : decode cX11_clear 63 = .ok (.getfield 56, 3) := by decide +kernel
theorem dX11_clear_66 : decode cX11_clear 66 = .ok (.bipush 8, 2) := by decide +kernel
theorem dX11_clear_68 : decode cX11_clear 68 = .ok (.iload_n 1, 1) := by decide +kernel
theorem dX11_clear_69 : decode cX11_clear 69 = .ok (.imul, 1) := by decide +kernel
theorem dX11_clear_70 : decode cX11_clear 70 = .ok (.iconst 5, 1) := by decide +kernel
theorem dX11_clear_71 : decode cX11_clear 71 = .ok (.iadd, 1) := by decide +kernel
theorem dX11_clear_72 : decode cX11_clear 72 = .ok (.iload_n 2, 1) := by decide +kernel
theorem dX11_clear_73 : decode cX11_clear 73 = .ok (.iadd, 1) := by decide +kernel
theorem dX11_clear_74 : decode cX11_clear 74 = .ok (.dup2, 1) := by decide +kernel
theorem dX11_clear_75 : decode cX11_clear 75 = .ok (.iaload, 1) := by decide +kernel
theorem dX11_clear_76 : decode cX11_clear 76 = .ok (.iload_n 3, 1) := by decide +kernel
theorem dX11_clear_77 : decode cX11_clear 77 = .ok (.iadd, 1) := by decide +kernel
theorem dX11_clear_78 : decode cX11_clear 78 = .ok (.iastore, 1) := by decide +kernel
theorem dX11_clear_79 : decode cX11_clear 79 = .ok (.aload_n 0, 1) := by decide +kernel
theorem dX11_clear_80 : decode cX11_clear 80 = .ok (.getfield 56, 3) := by decide +kernel
theorem dX11_clear_83 : decode cX11_clear 83 = .ok (.bipush 8, 2) := by decide +kernel
theorem dX11_clear_85 : decode cX11_clear 85 = .ok (.iload_n 1, 1) := by decide +kernel
theorem dX11_clear_86 : decode cX11_clear 86 = .ok (.imul, 1) := by decide +kernel
theorem dX11_clear_87 : decode cX11_clear 87 = .ok (.iconst 2, 1) := by decide +kernel
theorem dX11_clear_88 : decode cX11_clear 88 = .ok (.iadd, 1) := by decide +kernel
theorem dX11_clear_89 : decode cX11_clear 89 = .ok (.iaload, 1) := by decide +kernel
theorem dX11_clear_90 : decode cX11_clear 90 = .ok (.ireturn, 1) := by decide +kernel
theorem dX11_book_0 : decode cX11_book 0 = .ok (.aload_n 0, 1) := by decide +kernel
theorem dX11_book_1 : decode cX11_book 1 = .ok (.iconst 0, 1) := by decide +kernel
theorem dX11_book_2 : decode cX11_book 2 = .ok (.putfield 84, 3) := by decide +kernel
theorem dX11_book_5 : decode cX11_book 5 = .ok (.iload_n 1, 1) := by decide +kernel
theorem dX11_book_6 : decode cX11_book 6 = .ok (.iconst 0, 1) := by decide +kernel
theorem dX11_book_7 : decode cX11_book 7 = .ok (.aload_n 0, 1) := by decide +kernel
theorem dX11_book_8 : decode cX11_book 8 = .ok (.getfield 163, 3) := by decide +kernel
theorem dX11_book_11 : decode cX11_book 11 = .ok (.invokestatic 91, 3) := by decide +kernel
theorem dX11_book_14 : decode cX11_book 14 = .ok (.ifCond .eq 27, 3) := by decide +kernel
theorem dX11_book_17 : decode cX11_book 17 = .ok (.iload_n 2, 1) := by decide +kernel
theorem dX11_book_18 : decode cX11_book 18 = .ok (.iconst 0, 1) := by decide +kernel
theorem dX11_book_19 : decode cX11_book 19 = .ok (.bipush 7, 2) := by decide +kernel
theorem dX11_book_21 : decode cX11_book 21 = .ok (.invokestatic 91, 3) := by decide +kernel
theorem dX11_book_24 : decode cX11_book 24 = .ok (.ifCond .eq 17, 3) := by decide +kernel
theorem dX11_book_27 : decode cX11_book 27 = .ok (.aload_n 0, 1) := by decide +kernel
theorem dX11_book_28 : decode cX11_book 28 = .ok (.getfield 56, 3) := by decide +kernel
theorem dX11_book_31 : decode cX11_book 31 = .ok (.bipush 8, 2) := by decide +kernel
theorem dX11_book_33 : decode cX11_book 33 = .ok (.iload_n 1, 1) := by decide +kernel
theorem dX11_book_34 : decode cX11_book 34 = .ok (.imul, 1) := by decide +kernel
theorem dX11_book_35 : decode cX11_book 35 = .ok (.iload_n 2, 1) := by decide +kernel
theorem dX11_book_36 : decode cX11_book 36 = .ok (.iadd, 1) := by decide +kernel
theorem dX11_book_37 : decode cX11_book 37 = .ok (.iaload, 1) := by decide +kernel
theorem dX11_book_38 : decode cX11_book 38 = .ok (.goto 4, 3) := by decide +kernel
theorem dX11_book_41 : decode cX11_book 41 = .ok (.iconst (-1), 1) := by decide +kernel
theorem dX11_book_42 : decode cX11_book 42 = .ok (.ireturn, 1) := by decide +kernel
theorem dX11_count_0 : decode cX11_count 0 = .ok (.aload_n 0, 1) := by decide +kernel
theorem dX11_count_1 : decode cX11_count 1 = .ok (.iconst 0, 1) := by decide +kernel
theorem dX11_count_2 : decode cX11_count 2 = .ok (.putfield 84, 3) := by decide +kernel
theorem dX11_count_5 : decode cX11_count 5 = .ok (.iconst 0, 1) := by decide +kernel
theorem dX11_count_6 : decode cX11_count 6 = .ok (.istore_n 2, 1) := by decide +kernel
theorem dX11_count_7 : decode cX11_count 7 = .ok (.iload_n 1, 1) := by decide +kernel
theorem dX11_count_8 : decode cX11_count 8 = .ok (.tableswitch 106 0 7 #[48, 53, 58, 58, 58, 91, 96, 101], 48) := by decide +kernel
theorem dX11_count_56 : decode cX11_count 56 = .ok (.aload_n 0, 1) := by decide +kernel
theorem dX11_count_57 : decode cX11_count 57 = .ok (.getfield 163, 3) := by decide +kernel
theorem dX11_count_60 : decode cX11_count 60 = .ok (.ireturn, 1) := by decide +kernel
theorem dX11_count_61 : decode cX11_count 61 = .ok (.aload_n 0, 1) := by decide +kernel
theorem dX11_count_62 : decode cX11_count 62 = .ok (.getfield 88, 3) := by decide +kernel
theorem dX11_count_65 : decode cX11_count 65 = .ok (.ireturn, 1) := by decide +kernel
theorem dX11_count_66 : decode cX11_count 66 = .ok (.iconst 0, 1) := by decide +kernel
theorem dX11_count_67 : decode cX11_count 67 = .ok (.istore_n 3, 1) := by decide +kernel
theorem dX11_count_68 : decode cX11_count 68 = .ok (.iload_n 3, 1) := by decide +kernel
theorem dX11_count_69 : decode cX11_count 69 = .ok (.aload_n 0, 1) := by decide +kernel
theorem dX11_count_70 : decode cX11_count 70 = .ok (.getfield 88, 3) := by decide +kernel
theorem dX11_count_73 : decode cX11_count 73 = .ok (.if_icmp .ge 24, 3) := by decide +kernel
theorem dX11_count_76 : decode cX11_count 76 = .ok (.aload_n 0, 1) := by decide +kernel
theorem dX11_count_77 : decode cX11_count 77 = .ok (.getfield 35, 3) := by decide +kernel
theorem dX11_count_80 : decode cX11_count 80 = .ok (.iload_n 3, 1) := by decide +kernel
theorem dX11_count_81 : decode cX11_count 81 = .ok (.iaload, 1) := by decide +kernel
theorem dX11_count_82 : decode cX11_count 82 = .ok (.iload_n 1, 1) := by decide +kernel
theorem dX11_count_83 : decode cX11_count 83 = .ok (.iconst 2, 1) := by decide +kernel
theorem dX11_count_84 : decode cX11_count 84 = .ok (.isub, 1) := by decide +kernel
theorem dX11_count_85 : decode cX11_count 85 = .ok (.if_icmp .ne 6, 3) := by decide +kernel
theorem dX11_count_88 : decode cX11_count 88 = .ok (.iinc 2 1, 3) := by decide +kernel
theorem dX11_count_91 : decode cX11_count 91 = .ok (.iinc 3 1, 3) := by decide +kernel
theorem dX11_count_94 : decode cX11_count 94 = .ok (.goto (-26), 3) := by decide +kernel
theorem dX11_count_97 : decode cX11_count 97 = .ok (.iload_n 2, 1) := by decide +kernel
theorem dX11_count_98 : decode cX11_count 98 = .ok (.ireturn, 1) := by decide +kernel
theorem dX11_count_99 : decode cX11_count 99 = .ok (.aload_n 0, 1) := by decide +kernel
theorem dX11_count_100 : decode cX11_count 100 = .ok (.getfield 160, 3) := by decide +kernel
theorem dX11_count_103 : decode cX11_count 103 = .ok (.ireturn, 1) := by decide +kernel
theorem dX11_count_104 : decode cX11_count 104 = .ok (.aload_n 0, 1) := by decide +kernel
theorem dX11_count_105 : decode cX11_count 105 = .ok (.getfield 151, 3) := by decide +kernel
theorem dX11_count_108 : decode cX11_count 108 = .ok (.ireturn, 1) := by decide +kernel
theorem dX11_count_109 : decode cX11_count 109 = .ok (.aload_n 0, 1) := by decide +kernel
theorem dX11_count_110 : decode cX11_count 110 = .ok (.getfield 95, 3) := by decide +kernel
theorem dX11_count_113 : decode cX11_count 113 = .ok (.ireturn, 1) := by decide +kernel
theorem dX11_count_114 : decode cX11_count 114 = .ok (.iconst (-1), 1) := by decide +kernel
theorem dX11_count_115 : decode cX11_count 115 = .ok (.ireturn, 1) := by decide +kernel
theorem dX11_chance_0 : decode cX11_chance 0 = .ok (.aload_n 0, 1) := by decide +kernel
theorem dX11_chance_1 : decode cX11_chance 1 = .ok (.iconst 0, 1) := by decide +kernel
theorem dX11_chance_2 : decode cX11_chance 2 = .ok (.putfield 84, 3) := by decide +kernel
theorem dX11_chance_5 : decode cX11_chance 5 = .ok (.iload_n 1, 1) := by decide +kernel
theorem dX11_chance_6 : decode cX11_chance 6 = .ok (.iconst 0, 1) := by decide +kernel
theorem dX11_chance_7 : decode cX11_chance 7 = .ok (.iconst 3, 1) := by decide +kernel
theorem dX11_chance_8 : decode cX11_chance 8 = .ok (.invokestatic 91, 3) := by decide +kernel
theorem dX11_chance_11 : decode cX11_chance 11 = .ok (.ifCond .eq 13, 3) := by decide +kernel
theorem dX11_chance_14 : decode cX11_chance 14 = .ok (.iload_n 2, 1) := by decide +kernel
theorem dX11_chance_15 : decode cX11_chance 15 = .ok (.iconst 0, 1) := by decide +kernel
theorem dX11_chance_16 : decode cX11_chance 16 = .ok (.bipush 100, 2) := by decide +kernel
theorem dX11_chance_18 : decode cX11_chance 18 = .ok (.invokestatic 91, 3) := by decide +kernel
theorem dX11_chance_21 : decode cX11_chance 21 = .ok (.ifCond .ne 5, 3) := by decide +kernel
theorem dX11_chance_24 : decode cX11_chance 24 = .ok (.iconst 0, 1) := by decide +kernel
theorem dX11_chance_25 : decode cX11_chance 25 = .ok (.ireturn, 1) := by decide +kernel
theorem dX11_chance_26 : decode cX11_chance 26 = .ok (.aload_n 0, 1) := by decide +kernel
theorem dX11_chance_27 : decode cX11_chance 27 = .ok (.getfield 75, 3) := by decide +kernel
theorem dX11_chance_30 : decode cX11_chance 30 = .ok (.iload_n 1, 1) := by decide +kernel
theorem dX11_chance_31 : decode cX11_chance 31 = .ok (.iload_n 2, 1) := by decide +kernel
theorem dX11_chance_32 : decode cX11_chance 32 = .ok (.iastore, 1) := by decide +kernel
theorem dX11_chance_33 : decode cX11_chance 33 = .ok (.iconst 1, 1) := by decide +kernel
theorem dX11_chance_34 : decode cX11_chance 34 = .ok (.ireturn, 1) := by decide +kernel
theorem dX11_areKinds_0 : decode cX11_areKinds 0 = .ok (.iload_n 0, 1) := by decide +kernel
theorem dX11_areKinds_1 : decode cX11_areKinds 1 = .ok (.iconst 1, 1) := by decide +kernel
theorem dX11_areKinds_2 : decode cX11_areKinds 2 = .ok (.bipush 8, 2) := by decide +kernel
theorem dX11_areKinds_4 : decode cX11_areKinds 4 = .ok (.invokestatic 91, 3) := by decide +kernel
theorem dX11_areKinds_7 : decode cX11_areKinds 7 = .ok (.ifCond .eq 20, 3) := by decide +kernel
theorem dX11_areKinds_10 : decode cX11_areKinds 10 = .ok (.iload_n 1, 1) := by decide +kernel
theorem dX11_areKinds_11 : decode cX11_areKinds 11 = .ok (.ifCond .lt 16, 3) := by decide +kernel
theorem dX11_areKinds_14 : decode cX11_areKinds 14 = .ok (.iload_n 1, 1) := by decide +kernel
theorem dX11_areKinds_15 : decode cX11_areKinds 15 = .ok (.iconst 1, 1) := by decide +kernel
theorem dX11_areKinds_16 : decode cX11_areKinds 16 = .ok (.iconst 2, 1) := by decide +kernel
theorem dX11_areKinds_17 : decode cX11_areKinds 17 = .ok (.iload_n 0, 1) := by decide +kernel
theorem dX11_areKinds_18 : decode cX11_areKinds 18 = .ok (.imul, 1) := by decide +kernel
theorem dX11_areKinds_19 : decode cX11_areKinds 19 = .ok (.ishl, 1) := by decide +kernel
theorem dX11_areKinds_20 : decode cX11_areKinds 20 = .ok (.if_icmp .ge 7, 3) := by decide +kernel
theorem dX11_areKinds_23 : decode cX11_areKinds 23 = .ok (.iconst 1, 1) := by decide +kernel
theorem dX11_areKinds_24 : decode cX11_areKinds 24 = .ok (.goto 4, 3) := by decide +kernel
theorem dX11_areKinds_27 : decode cX11_areKinds 27 = .ok (.iconst 0, 1) := by decide +kernel
theorem dX11_areKinds_28 : decode cX11_areKinds 28 = .ok (.ireturn, 1) := by decide +kernel
theorem dX11_waysOf_0 : decode cX11_waysOf 0 = .ok (.lconst 0, 1) := by decide +kernel
theorem dX11_waysOf_1 : decode cX11_waysOf 1 = .ok (.lstore 4, 2) := by decide +kernel
theorem dX11_waysOf_3 : decode cX11_waysOf 3 = .ok (.iconst 0, 1) := by decide +kernel
theorem dX11_waysOf_4 : decode cX11_waysOf 4 = .ok (.istore 6, 2) := by decide +kernel
theorem dX11_waysOf_6 : decode cX11_waysOf 6 = .ok (.iload 6, 2) := by decide +kernel
theorem dX11_waysOf_8 : decode cX11_waysOf 8 = .ok (.iconst 1, 1) := by decide +kernel
theorem dX11_waysOf_9 : decode cX11_waysOf 9 = .ok (.iload_n 1, 1) := by decide +kernel
theorem dX11_waysOf_10 : decode cX11_waysOf 10 = .ok (.ishl, 1) := by decide +kernel
theorem dX11_waysOf_11 : decode cX11_waysOf 11 = .ok (.if_icmp .ge 89, 3) := by decide +kernel
theorem dX11_waysOf_14 : decode cX11_waysOf 14 = .ok (.iload 6, 2) := by decide +kernel
theorem dX11_waysOf_16 : decode cX11_waysOf 16 = .ok (.invokestatic 193, 3) := by decide +kernel
theorem dX11_waysOf_19 : decode cX11_waysOf 19 = .ok (.iload_n 3, 1) := by decide +kernel
theorem dX11_waysOf_20 : decode cX11_waysOf 20 = .ok (.if_icmp .eq 6, 3) := by decide +kernel
theorem dX11_waysOf_23 : decode cX11_waysOf 23 = .ok (.goto 71, 3) := by decide +kernel
theorem dX11_waysOf_26 : decode cX11_waysOf 26 = .ok (.lconst 1, 1) := by decide +kernel
theorem dX11_waysOf_27 : decode cX11_waysOf 27 = .ok (.lstore 7, 2) := by decide +kernel
theorem dX11_waysOf_29 : decode cX11_waysOf 29 = .ok (.iconst 0, 1) := by decide +kernel
theorem dX11_waysOf_30 : decode cX11_waysOf 30 = .ok (.istore 9, 2) := by decide +kernel
theorem dX11_waysOf_32 : decode cX11_waysOf 32 = .ok (.iload 9, 2) := by decide +kernel
theorem dX11_waysOf_34 : decode cX11_waysOf 34 = .ok (.iload_n 1, 1) := by decide +kernel
theorem dX11_waysOf_35 : decode cX11_waysOf 35 = .ok (.if_icmp .ge 52, 3) := by decide +kernel
theorem dX11_waysOf_38 : decode cX11_waysOf 38 = .ok (.aload_n 0, 1) := by decide +kernel
theorem dX11_waysOf_39 : decode cX11_waysOf 39 = .ok (.getfield 75, 3) := by decide +kernel
theorem dX11_waysOf_42 : decode cX11_waysOf 42 = .ok (.iload_n 2, 1) := by decide +kernel
theorem dX11_waysOf_43 : decode cX11_waysOf 43 = .ok (.iconst 2, 1) := by decide +kernel
theorem dX11_waysOf_44 : decode cX11_waysOf 44 = .ok (.iload 9, 2) := by decide +kernel
theorem dX11_waysOf_46 : decode cX11_waysOf 46 = .ok (.imul, 1) := by decide +kernel
theorem dX11_waysOf_47 : decode cX11_waysOf 47 = .ok (.ishr, 1) := by decide +kernel
theorem dX11_waysOf_48 : decode cX11_waysOf 48 = .ok (.iconst 3, 1) := by decide +kernel
theorem dX11_waysOf_49 : decode cX11_waysOf 49 = .ok (.iand, 1) := by decide +kernel
theorem dX11_waysOf_50 : decode cX11_waysOf 50 = .ok (.iaload, 1) := by decide +kernel
theorem dX11_waysOf_51 : decode cX11_waysOf 51 = .ok (.istore 10, 2) := by decide +kernel
theorem dX11_waysOf_53 : decode cX11_waysOf 53 = .ok (.lload 7, 2) := by decide +kernel
theorem dX11_waysOf_55 : decode cX11_waysOf 55 = .ok (.iload 6, 2) := by decide +kernel
theorem dX11_waysOf_57 : decode cX11_waysOf 57 = .ok (.iload 9, 2) := by decide +kernel
theorem dX11_waysOf_59 : decode cX11_waysOf 59 = .ok (.ishr, 1) := by decide +kernel
theorem dX11_waysOf_60 : decode cX11_waysOf 60 = .ok (.iconst 1, 1) := by decide +kernel
theorem dX11_waysOf_61 : decode cX11_waysOf 61 = .ok (.iand, 1) := by decide +kernel
theorem dX11_waysOf_62 : decode cX11_waysOf 62 = .ok (.iconst 1, 1) := by decide +kernel
theorem dX11_waysOf_63 : decode cX11_waysOf 63 = .ok (.if_icmp .ne 9, 3) := by decide +kernel
theorem dX11_waysOf_66 : decode cX11_waysOf 66 = .ok (.iload 10, 2) := by decide +kernel
theorem dX11_waysOf_68 : decode cX11_waysOf 68 = .ok (.i2l, 1) := by decide +kernel
theorem dX11_waysOf_69 : decode cX11_waysOf 69 = .ok (.goto 9, 3) := by decide +kernel
theorem dX11_waysOf_72 : decode cX11_waysOf 72 = .ok (.bipush 100, 2) := by decide +kernel
theorem dX11_waysOf_74 : decode cX11_waysOf 74 = .ok (.iload 10, 2) := by decide +kernel
theorem dX11_waysOf_76 : decode cX11_waysOf 76 = .ok (.isub, 1) := by decide +kernel
theorem dX11_waysOf_77 : decode cX11_waysOf 77 = .ok (.i2l, 1) := by decide +kernel
theorem dX11_waysOf_78 : decode cX11_waysOf 78 = .ok (.lmul, 1) := by decide +kernel
theorem dX11_waysOf_79 : decode cX11_waysOf 79 = .ok (.lstore 7, 2) := by decide +kernel
theorem dX11_waysOf_81 : decode cX11_waysOf 81 = .ok (.iinc 9 1, 3) := by decide +kernel
theorem dX11_waysOf_84 : decode cX11_waysOf 84 = .ok (.goto (-52), 3) := by decide +kernel
theorem dX11_waysOf_87 : decode cX11_waysOf 87 = .ok (.lload 4, 2) := by decide +kernel
theorem dX11_waysOf_89 : decode cX11_waysOf 89 = .ok (.lload 7, 2) := by decide +kernel
theorem dX11_waysOf_91 : decode cX11_waysOf 91 = .ok (.ladd, 1) := by decide +kernel
theorem dX11_waysOf_92 : decode cX11_waysOf 92 = .ok (.lstore 4, 2) := by decide +kernel
theorem dX11_waysOf_94 : decode cX11_waysOf 94 = .ok (.iinc 6 1, 3) := by decide +kernel
theorem dX11_waysOf_97 : decode cX11_waysOf 97 = .ok (.goto (-91), 3) := by decide +kernel
theorem dX11_waysOf_100 : decode cX11_waysOf 100 = .ok (.lload 4, 2) := by decide +kernel
theorem dX11_waysOf_102 : decode cX11_waysOf 102 = .ok (.lreturn, 1) := by decide +kernel
theorem dX11_ways_0 : decode cX11_ways 0 = .ok (.aload_n 0, 1) := by decide +kernel
theorem dX11_ways_1 : decode cX11_ways 1 = .ok (.iconst 0, 1) := by decide +kernel
theorem dX11_ways_2 : decode cX11_ways 2 = .ok (.putfield 84, 3) := by decide +kernel
theorem dX11_ways_5 : decode cX11_ways 5 = .ok (.iload_n 1, 1) := by decide +kernel
theorem dX11_ways_6 : decode cX11_ways 6 = .ok (.iload_n 2, 1) := by decide +kernel
theorem dX11_ways_7 : decode cX11_ways 7 = .ok (.invokestatic 199, 3) := by decide +kernel
theorem dX11_ways_10 : decode cX11_ways 10 = .ok (.ifCond .eq 22, 3) := by decide +kernel
theorem dX11_ways_13 : decode cX11_ways 13 = .ok (.iload_n 3, 1) := by decide +kernel
theorem dX11_ways_14 : decode cX11_ways 14 = .ok (.iconst 0, 1) := by decide +kernel
theorem dX11_ways_15 : decode cX11_ways 15 = .ok (.iload_n 1, 1) := by decide +kernel
theorem dX11_ways_16 : decode cX11_ways 16 = .ok (.invokestatic 91, 3) := by decide +kernel
theorem dX11_ways_19 : decode cX11_ways 19 = .ok (.ifCond .eq 13, 3) := by decide +kernel
theorem dX11_ways_22 : decode cX11_ways 22 = .ok (.aload_n 0, 1) := by decide +kernel
theorem dX11_ways_23 : decode cX11_ways 23 = .ok (.iload_n 1, 1) := by decide +kernel
theorem dX11_ways_24 : decode cX11_ways 24 = .ok (.iload_n 2, 1) := by decide +kernel
theorem dX11_ways_25 : decode cX11_ways 25 = .ok (.iload_n 3, 1) := by decide +kernel
theorem dX11_ways_26 : decode cX11_ways 26 = .ok (.invokevirtual 202, 3) := by decide +kernel
theorem dX11_ways_29 : decode cX11_ways 29 = .ok (.goto 6, 3) := by decide +kernel
theorem dX11_ways_32 : decode cX11_ways 32 = .ok (.ldc2_w 182, 3) := by decide +kernel
theorem dX11_ways_35 : decode cX11_ways 35 = .ok (.lreturn, 1) := by decide +kernel
theorem dX11_print_0 : decode cX11_print 0 = .ok (.aload_n 0, 1) := by decide +kernel
theorem dX11_print_1 : decode cX11_print 1 = .ok (.iconst 0, 1) := by decide +kernel
theorem dX11_print_2 : decode cX11_print 2 = .ok (.putfield 84, 3) := by decide +kernel
theorem dX11_print_5 : decode cX11_print 5 = .ok (.iload_n 1, 1) := by decide +kernel
theorem dX11_print_6 : decode cX11_print 6 = .ok (.iload_n 2, 1) := by decide +kernel
theorem dX11_print_7 : decode cX11_print 7 = .ok (.invokestatic 199, 3) := by decide +kernel
theorem dX11_print_10 : decode cX11_print 10 = .ok (.ifCond .eq 24, 3) := by decide +kernel
theorem dX11_print_13 : decode cX11_print 13 = .ok (.iload_n 3, 1) := by decide +kernel
theorem dX11_print_14 : decode cX11_print 14 = .ok (.iconst 1, 1) := by decide +kernel
theorem dX11_print_15 : decode cX11_print 15 = .ok (.bipush 99, 2) := by decide +kernel
theorem dX11_print_17 : decode cX11_print 17 = .ok (.invokestatic 91, 3) := by decide +kernel
theorem dX11_print_20 : decode cX11_print 20 = .ok (.ifCond .eq 14, 3) := by decide +kernel
theorem dX11_print_23 : decode cX11_print 23 = .ok (.iload 4, 2) := by decide +kernel
theorem dX11_print_25 : decode cX11_print 25 = .ok (.iconst 1, 1) := by decide +kernel
theorem dX11_print_26 : decode cX11_print 26 = .ok (.bipush 99, 2) := by decide +kernel
theorem dX11_print_28 : decode cX11_print 28 = .ok (.invokestatic 91, 3) := by decide +kernel
theorem dX11_print_31 : decode cX11_print 31 = .ok (.ifCond .ne 5, 3) := by decide +kernel
theorem dX11_print_34 : decode cX11_print 34 = .ok (.iconst (-1), 1) := by decide +kernel
theorem dX11_print_35 : decode cX11_print 35 = .ok (.ireturn, 1) := by decide +kernel
theorem dX11_print_36 : decode cX11_print 36 = .ok (.iconst 0, 1) := by decide +kernel
theorem dX11_print_37 : decode cX11_print 37 = .ok (.istore 5, 2) := by decide +kernel
theorem dX11_print_39 : decode cX11_print 39 = .ok (.lconst 0, 1) := by decide +kernel
theorem dX11_print_40 : decode cX11_print 40 = .ok (.lstore 6, 2) := by decide +kernel
theorem dX11_print_42 : decode cX11_print 42 = .ok (.iconst 0, 1) := by decide +kernel
theorem dX11_print_43 : decode cX11_print 43 = .ok (.istore 8, 2) := by decide +kernel
theorem dX11_print_45 : decode cX11_print 45 = .ok (.iload 8, 2) := by decide +kernel
theorem dX11_print_47 : decode cX11_print 47 = .ok (.iload_n 1, 1) := by decide +kernel
theorem dX11_print_48 : decode cX11_print 48 = .ok (.if_icmp .gt 91, 3) := by decide +kernel
theorem dX11_print_51 : decode cX11_print 51 = .ok (.lconst 0, 1) := by decide +kernel
theorem dX11_print_52 : decode cX11_print 52 = .ok (.lstore 9, 2) := by decide +kernel
theorem dX11_print_54 : decode cX11_print 54 = .ok (.iconst 0, 1) := by decide +kernel
theorem dX11_print_55 : decode cX11_print 55 = .ok (.istore 11, 2) := by decide +kernel
theorem dX11_print_57 : decode cX11_print 57 = .ok (.iload 11, 2) := by decide +kernel
theorem dX11_print_59 : decode cX11_print 59 = .ok (.iload_n 1, 1) := by decide +kernel
theorem dX11_print_60 : decode cX11_print 60 = .ok (.if_icmp .gt 49, 3) := by decide +kernel
theorem dX11_print_63 : decode cX11_print 63 = .ok (.lload 9, 2) := by decide +kernel
theorem dX11_print_65 : decode cX11_print 65 = .ok (.aload_n 0, 1) := by decide +kernel
theorem dX11_print_66 : decode cX11_print 66 = .ok (.iload_n 1, 1) := by decide +kernel
theorem dX11_print_67 : decode cX11_print 67 = .ok (.iload_n 2, 1) := by decide +kernel
theorem dX11_print_68 : decode cX11_print 68 = .ok (.iload 11, 2) := by decide +kernel
theorem dX11_print_70 : decode cX11_print 70 = .ok (.invokevirtual 202, 3) := by decide +kernel
theorem dX11_print_73 : decode cX11_print 73 = .ok (.iload 11, 2) := by decide +kernel
theorem dX11_print_75 : decode cX11_print 75 = .ok (.iload 8, 2) := by decide +kernel
theorem dX11_print_77 : decode cX11_print 77 = .ok (.if_icmp .ge 13, 3) := by decide +kernel
theorem dX11_print_80 : decode cX11_print 80 = .ok (.iload_n 3, 1) := by decide +kernel
theorem dX11_print_81 : decode cX11_print 81 = .ok (.iload 8, 2) := by decide +kernel
theorem dX11_print_83 : decode cX11_print 83 = .ok (.iload 11, 2) := by decide +kernel
theorem dX11_print_85 : decode cX11_print 85 = .ok (.isub, 1) := by decide +kernel
theorem dX11_print_86 : decode cX11_print 86 = .ok (.imul, 1) := by decide +kernel
theorem dX11_print_87 : decode cX11_print 87 = .ok (.goto 11, 3) := by decide +kernel
theorem dX11_print_90 : decode cX11_print 90 = .ok (.iload 4, 2) := by decide +kernel
theorem dX11_print_92 : decode cX11_print 92 = .ok (.iload 11, 2) := by decide +kernel
theorem dX11_print_94 : decode cX11_print 94 = .ok (.iload 8, 2) := by decide +kernel
theorem dX11_print_96 : decode cX11_print 96 = .ok (.isub, 1) := by decide +kernel
theorem dX11_print_97 : decode cX11_print 97 = .ok (.imul, 1) := by decide +kernel
theorem dX11_print_98 : decode cX11_print 98 = .ok (.i2l, 1) := by decide +kernel
theorem dX11_print_99 : decode cX11_print 99 = .ok (.lmul, 1) := by decide +kernel
theorem dX11_print_100 : decode cX11_print 100 = .ok (.ladd, 1) := by decide +kernel
theorem dX11_print_101 : decode cX11_print 101 = .ok (.lstore 9, 2) := by decide +kernel
theorem dX11_print_103 : decode cX11_print 103 = .ok (.iinc 11 1, 3) := by decide +kernel
theorem dX11_print_106 : decode cX11_print 106 = .ok (.goto (-49), 3) := by decide +kernel
theorem dX11_print_109 : decode cX11_print 109 = .ok (.iload 8, 2) := by decide +kernel
theorem dX11_print_111 : decode cX11_print 111 = .ok (.ifCond .le 14, 3) := by decide +kernel
theorem dX11_print_114 : decode cX11_print 114 = .ok (.lload 9, 2) := by decide +kernel
theorem dX11_print_116 : decode cX11_print 116 = .ok (.lload 6, 2) := by decide +kernel
theorem dX11_print_118 : decode cX11_print 118 = .ok (.lcmp, 1) := by decide +kernel
theorem dX11_print_119 : decode cX11_print 119 = .ok (.ifCond .lt 6, 3) := by decide +kernel
theorem dX11_print_122 : decode cX11_print 122 = .ok (.goto 11, 3) := by decide +kernel
theorem dX11_print_125 : decode cX11_print 125 = .ok (.iload 8, 2) := by decide +kernel
theorem dX11_print_127 : decode cX11_print 127 = .ok (.istore 5, 2) := by decide +kernel
theorem dX11_print_129 : decode cX11_print 129 = .ok (.lload 9, 2) := by decide +kernel
theorem dX11_print_131 : decode cX11_print 131 = .ok (.lstore 6, 2) := by decide +kernel
theorem dX11_print_133 : decode cX11_print 133 = .ok (.iinc 8 1, 3) := by decide +kernel
theorem dX11_print_136 : decode cX11_print 136 = .ok (.goto (-91), 3) := by decide +kernel
theorem dX11_print_139 : decode cX11_print 139 = .ok (.iload 5, 2) := by decide +kernel
theorem dX11_print_141 : decode cX11_print 141 = .ok (.ireturn, 1) := by decide +kernel
theorem dX11_isPair_0 : decode cX11_isPair 0 = .ok (.iload_n 0, 1) := by decide +kernel
theorem dX11_isPair_1 : decode cX11_isPair 1 = .ok (.iconst 0, 1) := by decide +kernel
theorem dX11_isPair_2 : decode cX11_isPair 2 = .ok (.bipush 8, 2) := by decide +kernel
theorem dX11_isPair_4 : decode cX11_isPair 4 = .ok (.invokestatic 91, 3) := by decide +kernel
theorem dX11_isPair_7 : decode cX11_isPair 7 = .ok (.ifCond .eq 17, 3) := by decide +kernel
theorem dX11_isPair_10 : decode cX11_isPair 10 = .ok (.iload_n 1, 1) := by decide +kernel
theorem dX11_isPair_11 : decode cX11_isPair 11 = .ok (.iconst 0, 1) := by decide +kernel
theorem dX11_isPair_12 : decode cX11_isPair 12 = .ok (.bipush 19, 2) := by decide +kernel
theorem dX11_isPair_14 : decode cX11_isPair 14 = .ok (.invokestatic 91, 3) := by decide +kernel
theorem dX11_isPair_17 : decode cX11_isPair 17 = .ok (.ifCond .eq 7, 3) := by decide +kernel
theorem dX11_isPair_20 : decode cX11_isPair 20 = .ok (.iconst 1, 1) := by decide +kernel
theorem dX11_isPair_21 : decode cX11_isPair 21 = .ok (.goto 4, 3) := by decide +kernel
theorem dX11_isPair_24 : decode cX11_isPair 24 = .ok (.iconst 0, 1) := by decide +kernel
theorem dX11_isPair_25 : decode cX11_isPair 25 = .ok (.ireturn, 1) := by decide +kernel
theorem dX11_mark_0 : decode cX11_mark 0 = .ok (.aload_n 0, 1) := by decide +kernel
theorem dX11_mark_1 : decode cX11_mark 1 = .ok (.iconst 0, 1) := by decide +kernel
theorem dX11_mark_2 : decode cX11_mark 2 = .ok (.putfield 84, 3) := by decide +kernel
theorem dX11_mark_5 : decode cX11_mark 5 = .ok (.iload_n 1, 1) := by decide +kernel
theorem dX11_mark_6 : decode cX11_mark 6 = .ok (.iload_n 2, 1) := by decide +kernel
theorem dX11_mark_7 : decode cX11_mark 7 = .ok (.invokestatic 206, 3) := by decide +kernel
theorem dX11_mark_10 : decode cX11_mark 10 = .ok (.ifCond .eq 13, 3) := by decide +kernel
theorem dX11_mark_13 : decode cX11_mark 13 = .ok (.iload_n 3, 1) := by decide +kernel
theorem dX11_mark_14 : decode cX11_mark 14 = .ok (.iconst (-1), 1) := by decide +kernel
theorem dX11_mark_15 : decode cX11_mark 15 = .ok (.bipush 10, 2) := by decide +kernel
theorem dX11_mark_17 : decode cX11_mark 17 = .ok (.invokestatic 91, 3) := by decide +kernel
theorem dX11_mark_20 : decode cX11_mark 20 = .ok (.ifCond .ne 5, 3) := by decide +kernel
theorem dX11_mark_23 : decode cX11_mark 23 = .ok (.iconst 0, 1) := by decide +kernel
theorem dX11_mark_24 : decode cX11_mark 24 = .ok (.ireturn, 1) := by decide +kernel
theorem dX11_mark_25 : decode cX11_mark 25 = .ok (.aload_n 0, 1) := by decide +kernel
theorem dX11_mark_26 : decode cX11_mark 26 = .ok (.getfield 78, 3) := by decide +kernel
theorem dX11_mark_29 : decode cX11_mark 29 = .ok (.bipush 20, 2) := by decide +kernel
theorem dX11_mark_31 : decode cX11_mark 31 = .ok (.iload_n 1, 1) := by decide +kernel
theorem dX11_mark_32 : decode cX11_mark 32 = .ok (.imul, 1) := by decide +kernel
theorem dX11_mark_33 : decode cX11_mark 33 = .ok (.iload_n 2, 1) := by decide +kernel
theorem dX11_mark_34 : decode cX11_mark 34 = .ok (.iadd, 1) := by decide +kernel
theorem dX11_mark_35 : decode cX11_mark 35 = .ok (.iload_n 3, 1) := by decide +kernel
theorem dX11_mark_36 : decode cX11_mark 36 = .ok (.iastore, 1) := by decide +kernel
theorem dX11_mark_37 : decode cX11_mark 37 = .ok (.iconst 1, 1) := by decide +kernel
theorem dX11_mark_38 : decode cX11_mark 38 = .ok (.ireturn, 1) := by decide +kernel
theorem dX11_kin_0 : decode cX11_kin 0 = .ok (.aload_n 0, 1) := by decide +kernel
theorem dX11_kin_1 : decode cX11_kin 1 = .ok (.iconst 0, 1) := by decide +kernel
theorem dX11_kin_2 : decode cX11_kin 2 = .ok (.putfield 84, 3) := by decide +kernel
theorem dX11_kin_5 : decode cX11_kin 5 = .ok (.iload_n 1, 1) := by decide +kernel
theorem dX11_kin_6 : decode cX11_kin 6 = .ok (.iload_n 2, 1) := by decide +kernel
theorem dX11_kin_7 : decode cX11_kin 7 = .ok (.invokestatic 206, 3) := by decide +kernel
theorem dX11_kin_10 : decode cX11_kin 10 = .ok (.ifCond .ne 5, 3) := by decide +kernel
theorem dX11_kin_13 : decode cX11_kin 13 = .ok (.iconst 0, 1) := by decide +kernel
theorem dX11_kin_14 : decode cX11_kin 14 = .ok (.ireturn, 1) := by decide +kernel
theorem dX11_kin_15 : decode cX11_kin 15 = .ok (.aload_n 0, 1) := by decide +kernel
theorem dX11_kin_16 : decode cX11_kin 16 = .ok (.getfield 81, 3) := by decide +kernel
theorem dX11_kin_19 : decode cX11_kin 19 = .ok (.bipush 20, 2) := by decide +kernel
theorem dX11_kin_21 : decode cX11_kin 21 = .ok (.iload_n 1, 1) := by decide +kernel
theorem dX11_kin_22 : decode cX11_kin 22 = .ok (.imul, 1) := by decide +kernel
theorem dX11_kin_23 : decode cX11_kin 23 = .ok (.iload_n 2, 1) := by decide +kernel
theorem dX11_kin_24 : decode cX11_kin 24 = .ok (.iadd, 1) := by decide +kernel
theorem dX11_kin_25 : decode cX11_kin 25 = .ok (.iload_n 3, 1) := by decide +kernel
theorem dX11_kin_26 : decode cX11_kin 26 = .ok (.bastore, 1) := by decide +kernel
theorem dX11_kin_27 : decode cX11_kin 27 = .ok (.iconst 1, 1) := by decide +kernel
theorem dX11_kin_28 : decode cX11_kin 28 = .ok (.ireturn, 1) := by decide +kernel
theorem dX11_marked_0 : decode cX11_marked 0 = .ok (.iconst 0, 1) := by decide +kernel
theorem dX11_marked_1 : decode cX11_marked 1 = .ok (.istore 4, 2) := by decide +kernel
theorem dX11_marked_3 : decode cX11_marked 3 = .ok (.iconst 0, 1) := by decide +kernel
theorem dX11_marked_4 : decode cX11_marked 4 = .ok (.istore 5, 2) := by decide +kernel
theorem dX11_marked_6 : decode cX11_marked 6 = .ok (.iload 5, 2) := by decide +kernel
theorem dX11_marked_8 : decode cX11_marked 8 = .ok (.bipush 9, 2) := by decide +kernel
theorem dX11_marked_10 : decode cX11_marked 10 = .ok (.if_icmp .ge 63, 3) := by decide +kernel
theorem dX11_marked_13 : decode cX11_marked 13 = .ok (.aload_n 0, 1) := by decide +kernel
theorem dX11_marked_14 : decode cX11_marked 14 = .ok (.getfield 81, 3) := by decide +kernel
theorem dX11_marked_17 : decode cX11_marked 17 = .ok (.bipush 20, 2) := by decide +kernel
theorem dX11_marked_19 : decode cX11_marked 19 = .ok (.iload 5, 2) := by decide +kernel
theorem dX11_marked_21 : decode cX11_marked 21 = .ok (.imul, 1) := by decide +kernel
theorem dX11_marked_22 : decode cX11_marked 22 = .ok (.iload_n 1, 1) := by decide +kernel
theorem dX11_marked_23 : decode cX11_marked 23 = .ok (.iadd, 1) := by decide +kernel
theorem dX11_marked_24 : decode cX11_marked 24 = .ok (.baload, 1) := by decide +kernel
theorem dX11_marked_25 : decode cX11_marked 25 = .ok (.ifCond .ne 42, 3) := by decide +kernel
theorem dX11_marked_28 : decode cX11_marked 28 = .ok (.aload_n 0, 1) := by decide +kernel
theorem dX11_marked_29 : decode cX11_marked 29 = .ok (.getfield 78, 3) := by decide +kernel
theorem dX11_marked_32 : decode cX11_marked 32 = .ok (.bipush 20, 2) := by decide +kernel
theorem dX11_marked_34 : decode cX11_marked 34 = .ok (.iload 5, 2) := by decide +kernel
theorem dX11_marked_36 : decode cX11_marked 36 = .ok (.imul, 1) := by decide +kernel
theorem dX11_marked_37 : decode cX11_marked 37 = .ok (.iload_n 1, 1) := by decide +kernel
theorem dX11_marked_38 : decode cX11_marked 38 = .ok (.iadd, 1) := by decide +kernel
theorem dX11_marked_39 : decode cX11_marked 39 = .ok (.iaload, 1) := by decide +kernel
theorem dX11_marked_40 : decode cX11_marked 40 = .ok (.iconst (-1), 1) := by decide +kernel
theorem dX11_marked_41 : decode cX11_marked 41 = .ok (.if_icmp .eq 26, 3) := by decide +kernel
theorem dX11_marked_44 : decode cX11_marked 44 = .ok (.aload_n 0, 1) := by decide +kernel
theorem dX11_marked_45 : decode cX11_marked 45 = .ok (.getfield 78, 3) := by decide +kernel
theorem dX11_marked_48 : decode cX11_marked 48 = .ok (.bipush 20, 2) := by decide +kernel
theorem dX11_marked_50 : decode cX11_marked 50 = .ok (.iload 5, 2) := by decide +kernel
theorem dX11_marked_52 : decode cX11_marked 52 = .ok (.imul, 1) := by decide +kernel
theorem dX11_marked_53 : decode cX11_marked 53 = .ok (.iload_n 1, 1) := by decide +kernel
theorem dX11_marked_54 : decode cX11_marked 54 = .ok (.iadd, 1) := by decide +kernel
theorem dX11_marked_55 : decode cX11_marked 55 = .ok (.iaload, 1) := by decide +kernel
theorem dX11_marked_56 : decode cX11_marked 56 = .ok (.iload_n 2, 1) := by decide +kernel
theorem dX11_marked_57 : decode cX11_marked 57 = .ok (.iload_n 3, 1) := by decide +kernel
theorem dX11_marked_58 : decode cX11_marked 58 = .ok (.invokestatic 91, 3) := by decide +kernel
theorem dX11_marked_61 : decode cX11_marked 61 = .ok (.ifCond .eq 6, 3) := by decide +kernel
theorem dX11_marked_64 : decode cX11_marked 64 = .ok (.iinc 4 1, 3) := by decide +kernel
theorem dX11_marked_67 : decode cX11_marked 67 = .ok (.iinc 5 1, 3) := by decide +kernel
theorem dX11_marked_70 : decode cX11_marked 70 = .ok (.goto (-64), 3) := by decide +kernel
theorem dX11_marked_73 : decode cX11_marked 73 = .ok (.iload 4, 2) := by decide +kernel
theorem dX11_marked_75 : decode cX11_marked 75 = .ok (.ireturn, 1) := by decide +kernel
theorem dX11_middleOf_0 : decode cX11_middleOf 0 = .ok (.aload_n 0, 1) := by decide +kernel
theorem dX11_middleOf_1 : decode cX11_middleOf 1 = .ok (.iload_n 1, 1) := by decide +kernel
theorem dX11_middleOf_2 : decode cX11_middleOf 2 = .ok (.iconst 0, 1) := by decide +kernel
theorem dX11_middleOf_3 : decode cX11_middleOf 3 = .ok (.bipush 10, 2) := by decide +kernel
theorem dX11_middleOf_5 : decode cX11_middleOf 5 = .ok (.invokevirtual 209, 3) := by decide +kernel
theorem dX11_middleOf_8 : decode cX11_middleOf 8 = .ok (.istore_n 2, 1) := by decide +kernel
theorem dX11_middleOf_9 : decode cX11_middleOf 9 = .ok (.iload_n 2, 1) := by decide +kernel
theorem dX11_middleOf_10 : decode cX11_middleOf 10 = .ok (.ifCond .ne 5, 3) := by decide +kernel
theorem dX11_middleOf_13 : decode cX11_middleOf 13 = .ok (.iconst (-1), 1) := by decide +kernel
theorem dX11_middleOf_14 : decode cX11_middleOf 14 = .ok (.ireturn, 1) := by decide +kernel
theorem dX11_middleOf_15 : decode cX11_middleOf 15 = .ok (.iconst 0, 1) := by decide +kernel
theorem dX11_middleOf_16 : decode cX11_middleOf 16 = .ok (.istore_n 3, 1) := by decide +kernel
theorem dX11_middleOf_17 : decode cX11_middleOf 17 = .ok (.aload_n 0, 1) := by decide +kernel
theorem dX11_middleOf_18 : decode cX11_middleOf 18 = .ok (.iload_n 1, 1) := by decide +kernel
theorem dX11_middleOf_19 : decode cX11_middleOf 19 = .ok (.iconst 0, 1) := by decide +kernel
theorem dX11_middleOf_20 : decode cX11_middleOf 20 = .ok (.iload_n 3, 1) := by decide +kernel
theorem dX11_middleOf_21 : decode cX11_middleOf 21 = .ok (.invokevirtual 209, 3) := by decide +kernel
theorem dX11_middleOf_24 : decode cX11_middleOf 24 = .ok (.iload_n 2, 1) := by decide +kernel
theorem dX11_middleOf_25 : decode cX11_middleOf 25 = .ok (.iconst 1, 1) := by decide +kernel
theorem dX11_middleOf_26 : decode cX11_middleOf 26 = .ok (.isub, 1) := by decide +kernel
theorem dX11_middleOf_27 : decode cX11_middleOf 27 = .ok (.iconst 2, 1) := by decide +kernel
theorem dX11_middleOf_28 : decode cX11_middleOf 28 = .ok (.idiv, 1) := by decide +kernel
theorem dX11_middleOf_29 : decode cX11_middleOf 29 = .ok (.if_icmp .gt 9, 3) := by decide +kernel
theorem dX11_middleOf_32 : decode cX11_middleOf 32 = .ok (.iinc 3 1, 3) := by decide +kernel
theorem dX11_middleOf_35 : decode cX11_middleOf 35 = .ok (.goto (-18), 3) := by decide +kernel
theorem dX11_middleOf_38 : decode cX11_middleOf 38 = .ok (.iload_n 3, 1) := by decide +kernel
theorem dX11_middleOf_39 : decode cX11_middleOf 39 = .ok (.ireturn, 1) := by decide +kernel
theorem dX11_middle_0 : decode cX11_middle 0 = .ok (.aload_n 0, 1) := by decide +kernel
theorem dX11_middle_1 : decode cX11_middle 1 = .ok (.iconst 0, 1) := by decide +kernel
theorem dX11_middle_2 : decode cX11_middle 2 = .ok (.putfield 84, 3) := by decide +kernel
theorem dX11_middle_5 : decode cX11_middle 5 = .ok (.iload_n 1, 1) := by decide +kernel
theorem dX11_middle_6 : decode cX11_middle 6 = .ok (.iconst 0, 1) := by decide +kernel
theorem dX11_middle_7 : decode cX11_middle 7 = .ok (.bipush 19, 2) := by decide +kernel
theorem dX11_middle_9 : decode cX11_middle 9 = .ok (.invokestatic 91, 3) := by decide +kernel
theorem dX11_middle_12 : decode cX11_middle 12 = .ok (.ifCond .eq 11, 3) := by decide +kernel
theorem dX11_middle_15 : decode cX11_middle 15 = .ok (.aload_n 0, 1) := by decide +kernel
theorem dX11_middle_16 : decode cX11_middle 16 = .ok (.iload_n 1, 1) := by decide +kernel
theorem dX11_middle_17 : decode cX11_middle 17 = .ok (.invokevirtual 213, 3) := by decide +kernel
theorem dX11_middle_20 : decode cX11_middle 20 = .ok (.goto 4, 3) := by decide +kernel
theorem dX11_middle_23 : decode cX11_middle 23 = .ok (.iconst (-1), 1) := by decide +kernel
theorem dX11_middle_24 : decode cX11_middle 24 = .ok (.ireturn, 1) := by decide +kernel
theorem dX11_winner_0 : decode cX11_winner 0 = .ok (.aload_n 0, 1) := by decide +kernel
theorem dX11_winner_1 : decode cX11_winner 1 = .ok (.iconst 0, 1) := by decide +kernel
theorem dX11_winner_2 : decode cX11_winner 2 = .ok (.putfield 84, 3) := by decide +kernel
theorem dX11_winner_5 : decode cX11_winner 5 = .ok (.iconst (-1), 1) := by decide +kernel
theorem dX11_winner_6 : decode cX11_winner 6 = .ok (.istore_n 1, 1) := by decide +kernel
theorem dX11_winner_7 : decode cX11_winner 7 = .ok (.iconst 0, 1) := by decide +kernel
theorem dX11_winner_8 : decode cX11_winner 8 = .ok (.istore_n 2, 1) := by decide +kernel
theorem dX11_winner_9 : decode cX11_winner 9 = .ok (.iconst 0, 1) := by decide +kernel
theorem dX11_winner_10 : decode cX11_winner 10 = .ok (.istore_n 3, 1) := by decide +kernel
theorem dX11_winner_11 : decode cX11_winner 11 = .ok (.iload_n 3, 1) := by decide +kernel
theorem dX11_winner_12 : decode cX11_winner 12 = .ok (.bipush 20, 2) := by decide +kernel
theorem dX11_winner_14 : decode cX11_winner 14 = .ok (.if_icmp .ge 88, 3) := by decide +kernel
theorem dX11_winner_17 : decode cX11_winner 17 = .ok (.aload_n 0, 1) := by decide +kernel
theorem dX11_winner_18 : decode cX11_winner 18 = .ok (.iload_n 3, 1) := by decide +kernel
theorem dX11_winner_19 : decode cX11_winner 19 = .ok (.invokevirtual 213, 3) := by decide +kernel
theorem dX11_winner_22 : decode cX11_winner 22 = .ok (.istore 4, 2) := by decide +kernel
theorem dX11_winner_24 : decode cX11_winner 24 = .ok (.iload 4, 2) := by decide +kernel
theorem dX11_winner_26 : decode cX11_winner 26 = .ok (.iconst (-1), 1) := by decide +kernel
theorem dX11_winner_27 : decode cX11_winner 27 = .ok (.if_icmp .ne 6, 3) := by decide +kernel
theorem dX11_winner_30 : decode cX11_winner 30 = .ok (.goto 66, 3) := by decide +kernel
theorem dX11_winner_33 : decode cX11_winner 33 = .ok (.aload_n 0, 1) := by decide +kernel
theorem dX11_winner_34 : decode cX11_winner 34 = .ok (.iload_n 3, 1) := by decide +kernel
theorem dX11_winner_35 : decode cX11_winner 35 = .ok (.iload 4, 2) := by decide +kernel
theorem dX11_winner_37 : decode cX11_winner 37 = .ok (.iconst 1, 1) := by decide +kernel
theorem dX11_winner_38 : decode cX11_winner 38 = .ok (.iadd, 1) := by decide +kernel
theorem dX11_winner_39 : decode cX11_winner 39 = .ok (.bipush 10, 2) := by decide +kernel
theorem dX11_winner_41 : decode cX11_winner 41 = .ok (.invokevirtual 209, 3) := by decide +kernel
theorem dX11_winner_44 : decode cX11_winner 44 = .ok (.aload_n 0, 1) := by decide +kernel
theorem dX11_winner_45 : decode cX11_winner 45 = .ok (.iload_n 3, 1) := by decide +kernel
theorem dX11_winner_46 : decode cX11_winner 46 = .ok (.iconst 0, 1) := by decide +kernel
theorem dX11_winner_47 : decode cX11_winner 47 = .ok (.iload 4, 2) := by decide +kernel
theorem dX11_winner_49 : decode cX11_winner 49 = .ok (.iconst 1, 1) := by decide +kernel
theorem dX11_winner_50 : decode cX11_winner 50 = .ok (.isub, 1) := by decide +kernel
theorem dX11_winner_51 : decode cX11_winner 51 = .ok (.invokevirtual 209, 3) := by decide +kernel
theorem dX11_winner_54 : decode cX11_winner 54 = .ok (.isub, 1) := by decide +kernel
theorem dX11_winner_55 : decode cX11_winner 55 = .ok (.istore 5, 2) := by decide +kernel
theorem dX11_winner_57 : decode cX11_winner 57 = .ok (.iload_n 1, 1) := by decide +kernel
theorem dX11_winner_58 : decode cX11_winner 58 = .ok (.iconst (-1), 1) := by decide +kernel
theorem dX11_winner_59 : decode cX11_winner 59 = .ok (.if_icmp .eq 32, 3) := by decide +kernel
theorem dX11_winner_62 : decode cX11_winner 62 = .ok (.iload 4, 2) := by decide +kernel
theorem dX11_winner_64 : decode cX11_winner 64 = .ok (.aload_n 0, 1) := by decide +kernel
theorem dX11_winner_65 : decode cX11_winner 65 = .ok (.iload_n 1, 1) := by decide +kernel
theorem dX11_winner_66 : decode cX11_winner 66 = .ok (.invokevirtual 213, 3) := by decide +kernel
theorem dX11_winner_69 : decode cX11_winner 69 = .ok (.if_icmp .lt 27, 3) := by decide +kernel
theorem dX11_winner_72 : decode cX11_winner 72 = .ok (.iload 4, 2) := by decide +kernel
theorem dX11_winner_74 : decode cX11_winner 74 = .ok (.aload_n 0, 1) := by decide +kernel
theorem dX11_winner_75 : decode cX11_winner 75 = .ok (.iload_n 1, 1) := by decide +kernel
theorem dX11_winner_76 : decode cX11_winner 76 = .ok (.invokevirtual 213, 3) := by decide +kernel
theorem dX11_winner_79 : decode cX11_winner 79 = .ok (.if_icmp .ne 12, 3) := by decide +kernel
theorem dX11_winner_82 : decode cX11_winner 82 = .ok (.iload 5, 2) := by decide +kernel
theorem dX11_winner_84 : decode cX11_winner 84 = .ok (.iload_n 2, 1) := by decide +kernel
theorem dX11_winner_85 : decode cX11_winner 85 = .ok (.if_icmp .gt 6, 3) := by decide +kernel
theorem dX11_winner_88 : decode cX11_winner 88 = .ok (.goto 8, 3) := by decide +kernel
theorem dX11_winner_91 : decode cX11_winner 91 = .ok (.iload_n 3, 1) := by decide +kernel
theorem dX11_winner_92 : decode cX11_winner 92 = .ok (.istore_n 1, 1) := by decide +kernel
theorem dX11_winner_93 : decode cX11_winner 93 = .ok (.iload 5, 2) := by decide +kernel
theorem dX11_winner_95 : decode cX11_winner 95 = .ok (.istore_n 2, 1) := by decide +kernel
theorem dX11_winner_96 : decode cX11_winner 96 = .ok (.iinc 3 1, 3) := by decide +kernel
theorem dX11_winner_99 : decode cX11_winner 99 = .ok (.goto (-88), 3) := by decide +kernel
theorem dX11_winner_102 : decode cX11_winner 102 = .ok (.iload_n 1, 1) := by decide +kernel
theorem dX11_winner_103 : decode cX11_winner 103 = .ok (.ireturn, 1) := by decide +kernel
theorem dJ11_isValidCodePoint_9a6ad_0 : decode cJ11_isValidCodePoint_9a6ad 0 = .ok (.iload_n 0, 1) := by decide +kernel
theorem dJ11_isValidCodePoint_9a6ad_1 : decode cJ11_isValidCodePoint_9a6ad 1 = .ok (.bipush 16, 2) := by decide +kernel
theorem dJ11_isValidCodePoint_9a6ad_3 : decode cJ11_isValidCodePoint_9a6ad 3 = .ok (.iushr, 1) := by decide +kernel
theorem dJ11_isValidCodePoint_9a6ad_4 : decode cJ11_isValidCodePoint_9a6ad 4 = .ok (.istore_n 1, 1) := by decide +kernel
theorem dJ11_isValidCodePoint_9a6ad_5 : decode cJ11_isValidCodePoint_9a6ad 5 = .ok (.iload_n 1, 1) := by decide +kernel
theorem dJ11_isValidCodePoint_9a6ad_6 : decode cJ11_isValidCodePoint_9a6ad 6 = .ok (.bipush 17, 2) := by decide +kernel
theorem dJ11_isValidCodePoint_9a6ad_8 : decode cJ11_isValidCodePoint_9a6ad 8 = .ok (.if_icmp .ge 7, 3) := by decide +kernel
theorem dJ11_isValidCodePoint_9a6ad_11 : decode cJ11_isValidCodePoint_9a6ad 11 = .ok (.iconst 1, 1) := by decide +kernel
theorem dJ11_isValidCodePoint_9a6ad_12 : decode cJ11_isValidCodePoint_9a6ad 12 = .ok (.goto 4, 3) := by decide +kernel
theorem dJ11_isValidCodePoint_9a6ad_15 : decode cJ11_isValidCodePoint_9a6ad 15 = .ok (.iconst 0, 1) := by decide +kernel
theorem dJ11_isValidCodePoint_9a6ad_16 : decode cJ11_isValidCodePoint_9a6ad 16 = .ok (.ireturn, 1) := by decide +kernel
theorem dJ11_highSurrogate_5068e_0 : decode cJ11_highSurrogate_5068e 0 = .ok (.iload_n 0, 1) := by decide +kernel
theorem dJ11_highSurrogate_5068e_1 : decode cJ11_highSurrogate_5068e 1 = .ok (.bipush 10, 2) := by decide +kernel
theorem dJ11_highSurrogate_5068e_3 : decode cJ11_highSurrogate_5068e 3 = .ok (.iushr, 1) := by decide +kernel
theorem dJ11_highSurrogate_5068e_4 : decode cJ11_highSurrogate_5068e 4 = .ok (.ldc 110, 2) := by decide +kernel
theorem dJ11_highSurrogate_5068e_6 : decode cJ11_highSurrogate_5068e 6 = .ok (.iadd, 1) := by decide +kernel
theorem dJ11_highSurrogate_5068e_7 : decode cJ11_highSurrogate_5068e 7 = .ok (.i2c, 1) := by decide +kernel
theorem dJ11_highSurrogate_5068e_8 : decode cJ11_highSurrogate_5068e 8 = .ok (.ireturn, 1) := by decide +kernel
theorem dJ11_lowSurrogate_5068e_0 : decode cJ11_lowSurrogate_5068e 0 = .ok (.iload_n 0, 1) := by decide +kernel
theorem dJ11_lowSurrogate_5068e_1 : decode cJ11_lowSurrogate_5068e 1 = .ok (.sipush 1023, 3) := by decide +kernel
theorem dJ11_lowSurrogate_5068e_4 : decode cJ11_lowSurrogate_5068e 4 = .ok (.iand, 1) := by decide +kernel
theorem dJ11_lowSurrogate_5068e_5 : decode cJ11_lowSurrogate_5068e 5 = .ok (.ldc 76, 2) := by decide +kernel
theorem dJ11_lowSurrogate_5068e_7 : decode cJ11_lowSurrogate_5068e 7 = .ok (.iadd, 1) := by decide +kernel
theorem dJ11_lowSurrogate_5068e_8 : decode cJ11_lowSurrogate_5068e 8 = .ok (.i2c, 1) := by decide +kernel
theorem dJ11_lowSurrogate_5068e_9 : decode cJ11_lowSurrogate_5068e 9 = .ok (.ireturn, 1) := by decide +kernel
theorem dJ6_bitCount_0f7a4_0 : decode cJ6_bitCount_0f7a4 0 = .ok (.iload_n 0, 1) := by decide +kernel
theorem dJ6_bitCount_0f7a4_1 : decode cJ6_bitCount_0f7a4 1 = .ok (.iload_n 0, 1) := by decide +kernel
theorem dJ6_bitCount_0f7a4_2 : decode cJ6_bitCount_0f7a4 2 = .ok (.iconst 1, 1) := by decide +kernel
theorem dJ6_bitCount_0f7a4_3 : decode cJ6_bitCount_0f7a4 3 = .ok (.iushr, 1) := by decide +kernel
theorem dJ6_bitCount_0f7a4_4 : decode cJ6_bitCount_0f7a4 4 = .ok (.ldc_w 265, 3) := by decide +kernel
theorem dJ6_bitCount_0f7a4_7 : decode cJ6_bitCount_0f7a4 7 = .ok (.iand, 1) := by decide +kernel
theorem dJ6_bitCount_0f7a4_8 : decode cJ6_bitCount_0f7a4 8 = .ok (.isub, 1) := by decide +kernel
theorem dJ6_bitCount_0f7a4_9 : decode cJ6_bitCount_0f7a4 9 = .ok (.istore_n 0, 1) := by decide +kernel
theorem dJ6_bitCount_0f7a4_10 : decode cJ6_bitCount_0f7a4 10 = .ok (.iload_n 0, 1) := by decide +kernel
theorem dJ6_bitCount_0f7a4_11 : decode cJ6_bitCount_0f7a4 11 = .ok (.ldc_w 266, 3) := by decide +kernel
theorem dJ6_bitCount_0f7a4_14 : decode cJ6_bitCount_0f7a4 14 = .ok (.iand, 1) := by decide +kernel
theorem dJ6_bitCount_0f7a4_15 : decode cJ6_bitCount_0f7a4 15 = .ok (.iload_n 0, 1) := by decide +kernel
theorem dJ6_bitCount_0f7a4_16 : decode cJ6_bitCount_0f7a4 16 = .ok (.iconst 2, 1) := by decide +kernel
theorem dJ6_bitCount_0f7a4_17 : decode cJ6_bitCount_0f7a4 17 = .ok (.iushr, 1) := by decide +kernel
theorem dJ6_bitCount_0f7a4_18 : decode cJ6_bitCount_0f7a4 18 = .ok (.ldc_w 266, 3) := by decide +kernel
theorem dJ6_bitCount_0f7a4_21 : decode cJ6_bitCount_0f7a4 21 = .ok (.iand, 1) := by decide +kernel
theorem dJ6_bitCount_0f7a4_22 : decode cJ6_bitCount_0f7a4 22 = .ok (.iadd, 1) := by decide +kernel
theorem dJ6_bitCount_0f7a4_23 : decode cJ6_bitCount_0f7a4 23 = .ok (.istore_n 0, 1) := by decide +kernel
theorem dJ6_bitCount_0f7a4_24 : decode cJ6_bitCount_0f7a4 24 = .ok (.iload_n 0, 1) := by decide +kernel
theorem dJ6_bitCount_0f7a4_25 : decode cJ6_bitCount_0f7a4 25 = .ok (.iload_n 0, 1) := by decide +kernel
theorem dJ6_bitCount_0f7a4_26 : decode cJ6_bitCount_0f7a4 26 = .ok (.iconst 4, 1) := by decide +kernel
theorem dJ6_bitCount_0f7a4_27 : decode cJ6_bitCount_0f7a4 27 = .ok (.iushr, 1) := by decide +kernel
theorem dJ6_bitCount_0f7a4_28 : decode cJ6_bitCount_0f7a4 28 = .ok (.iadd, 1) := by decide +kernel
theorem dJ6_bitCount_0f7a4_29 : decode cJ6_bitCount_0f7a4 29 = .ok (.ldc_w 267, 3) := by decide +kernel
theorem dJ6_bitCount_0f7a4_32 : decode cJ6_bitCount_0f7a4 32 = .ok (.iand, 1) := by decide +kernel
theorem dJ6_bitCount_0f7a4_33 : decode cJ6_bitCount_0f7a4 33 = .ok (.istore_n 0, 1) := by decide +kernel
theorem dJ6_bitCount_0f7a4_34 : decode cJ6_bitCount_0f7a4 34 = .ok (.iload_n 0, 1) := by decide +kernel
theorem dJ6_bitCount_0f7a4_35 : decode cJ6_bitCount_0f7a4 35 = .ok (.iload_n 0, 1) := by decide +kernel
theorem dJ6_bitCount_0f7a4_36 : decode cJ6_bitCount_0f7a4 36 = .ok (.bipush 8, 2) := by decide +kernel
theorem dJ6_bitCount_0f7a4_38 : decode cJ6_bitCount_0f7a4 38 = .ok (.iushr, 1) := by decide +kernel
theorem dJ6_bitCount_0f7a4_39 : decode cJ6_bitCount_0f7a4 39 = .ok (.iadd, 1) := by decide +kernel
theorem dJ6_bitCount_0f7a4_40 : decode cJ6_bitCount_0f7a4 40 = .ok (.istore_n 0, 1) := by decide +kernel
theorem dJ6_bitCount_0f7a4_41 : decode cJ6_bitCount_0f7a4 41 = .ok (.iload_n 0, 1) := by decide +kernel
theorem dJ6_bitCount_0f7a4_42 : decode cJ6_bitCount_0f7a4 42 = .ok (.iload_n 0, 1) := by decide +kernel
theorem dJ6_bitCount_0f7a4_43 : decode cJ6_bitCount_0f7a4 43 = .ok (.bipush 16, 2) := by decide +kernel
theorem dJ6_bitCount_0f7a4_45 : decode cJ6_bitCount_0f7a4 45 = .ok (.iushr, 1) := by decide +kernel
theorem dJ6_bitCount_0f7a4_46 : decode cJ6_bitCount_0f7a4 46 = .ok (.iadd, 1) := by decide +kernel
theorem dJ6_bitCount_0f7a4_47 : decode cJ6_bitCount_0f7a4 47 = .ok (.istore_n 0, 1) := by decide +kernel
theorem dJ6_bitCount_0f7a4_48 : decode cJ6_bitCount_0f7a4 48 = .ok (.iload_n 0, 1) := by decide +kernel
theorem dJ6_bitCount_0f7a4_49 : decode cJ6_bitCount_0f7a4 49 = .ok (.bipush 63, 2) := by decide +kernel
theorem dJ6_bitCount_0f7a4_51 : decode cJ6_bitCount_0f7a4 51 = .ok (.iand, 1) := by decide +kernel
theorem dJ6_bitCount_0f7a4_52 : decode cJ6_bitCount_0f7a4 52 = .ok (.ireturn, 1) := by decide +kernel
theorem dJ9_max_7cf53_0 : decode cJ9_max_7cf53 0 = .ok (.iload_n 0, 1) := by decide +kernel
theorem dJ9_max_7cf53_1 : decode cJ9_max_7cf53 1 = .ok (.iload_n 1, 1) := by decide +kernel
theorem dJ9_max_7cf53_2 : decode cJ9_max_7cf53 2 = .ok (.if_icmp .lt 7, 3) := by decide +kernel
theorem dJ9_max_7cf53_5 : decode cJ9_max_7cf53 5 = .ok (.iload_n 0, 1) := by decide +kernel
theorem dJ9_max_7cf53_6 : decode cJ9_max_7cf53 6 = .ok (.goto 4, 3) := by decide +kernel
theorem dJ9_max_7cf53_9 : decode cJ9_max_7cf53 9 = .ok (.iload_n 1, 1) := by decide +kernel
theorem dJ9_max_7cf53_10 : decode cJ9_max_7cf53 10 = .ok (.ireturn, 1) := by decide +kernel
theorem dJ9_min_7cf53_0 : decode cJ9_min_7cf53 0 = .ok (.iload_n 0, 1) := by decide +kernel
theorem dJ9_min_7cf53_1 : decode cJ9_min_7cf53 1 = .ok (.iload_n 1, 1) := by decide +kernel
theorem dJ9_min_7cf53_2 : decode cJ9_min_7cf53 2 = .ok (.if_icmp .gt 7, 3) := by decide +kernel
theorem dJ9_min_7cf53_5 : decode cJ9_min_7cf53 5 = .ok (.iload_n 0, 1) := by decide +kernel
theorem dJ9_min_7cf53_6 : decode cJ9_min_7cf53 6 = .ok (.goto 4, 3) := by decide +kernel
theorem dJ9_min_7cf53_9 : decode cJ9_min_7cf53 9 = .ok (.iload_n 1, 1) := by decide +kernel
theorem dJ9_min_7cf53_10 : decode cJ9_min_7cf53 10 = .ok (.ireturn, 1) := by decide +kernel
theorem dJ0_length_8abf5_0 : decode cJ0_length_8abf5 0 = .ok (.aload_n 0, 1) := by decide +kernel
theorem dJ0_length_8abf5_1 : decode cJ0_length_8abf5 1 = .ok (.getfield 9, 3) := by decide +kernel
theorem dJ0_length_8abf5_4 : decode cJ0_length_8abf5 4 = .ok (.arraylength, 1) := by decide +kernel
theorem dJ0_length_8abf5_5 : decode cJ0_length_8abf5 5 = .ok (.aload_n 0, 1) := by decide +kernel
theorem dJ0_length_8abf5_6 : decode cJ0_length_8abf5 6 = .ok (.invokevirtual 335, 3) := by decide +kernel
theorem dJ0_length_8abf5_9 : decode cJ0_length_8abf5 9 = .ok (.ishr, 1) := by decide +kernel
theorem dJ0_length_8abf5_10 : decode cJ0_length_8abf5 10 = .ok (.ireturn, 1) := by decide +kernel
theorem dJ0_charAt_5068e_0 : decode cJ0_charAt_5068e 0 = .ok (.aload_n 0, 1) := by decide +kernel
theorem dJ0_charAt_5068e_1 : decode cJ0_charAt_5068e 1 = .ok (.invokevirtual 492, 3) := by decide +kernel
theorem dJ0_charAt_5068e_4 : decode cJ0_charAt_5068e 4 = .ok (.ifCond .eq 12, 3) := by decide +kernel
theorem dJ0_charAt_5068e_7 : decode cJ0_charAt_5068e 7 = .ok (.aload_n 0, 1) := by decide +kernel
theorem dJ0_charAt_5068e_8 : decode cJ0_charAt_5068e 8 = .ok (.getfield 9, 3) := by decide +kernel
theorem dJ0_charAt_5068e_11 : decode cJ0_charAt_5068e 11 = .ok (.iload_n 1, 1) := by decide +kernel
theorem dJ0_charAt_5068e_12 : decode cJ0_charAt_5068e 12 = .ok (.invokestatic 495, 3) := by decide +kernel
theorem dJ0_charAt_5068e_15 : decode cJ0_charAt_5068e 15 = .ok (.ireturn, 1) := by decide +kernel
theorem dJ0_charAt_5068e_16 : decode cJ0_charAt_5068e 16 = .ok (.aload_n 0, 1) := by decide +kernel
theorem dJ0_charAt_5068e_17 : decode cJ0_charAt_5068e 17 = .ok (.getfield 9, 3) := by decide +kernel
theorem dJ0_charAt_5068e_20 : decode cJ0_charAt_5068e 20 = .ok (.iload_n 1, 1) := by decide +kernel
theorem dJ0_charAt_5068e_21 : decode cJ0_charAt_5068e 21 = .ok (.invokestatic 498, 3) := by decide +kernel
theorem dJ0_charAt_5068e_24 : decode cJ0_charAt_5068e 24 = .ok (.ireturn, 1) := by decide +kernel
theorem dJ0_indexOf_7cf53_0 : decode cJ0_indexOf_7cf53 0 = .ok (.aload_n 0, 1) := by decide +kernel
theorem dJ0_indexOf_7cf53_1 : decode cJ0_indexOf_7cf53 1 = .ok (.invokevirtual 492, 3) := by decide +kernel
theorem dJ0_indexOf_7cf53_4 : decode cJ0_indexOf_7cf53 4 = .ok (.ifCond .eq 19, 3) := by decide +kernel
theorem dJ0_indexOf_7cf53_7 : decode cJ0_indexOf_7cf53 7 = .ok (.aload_n 0, 1) := by decide +kernel
theorem dJ0_indexOf_7cf53_8 : decode cJ0_indexOf_7cf53 8 = .ok (.getfield 9, 3) := by decide +kernel
theorem dJ0_indexOf_7cf53_11 : decode cJ0_indexOf_7cf53 11 = .ok (.iload_n 1, 1) := by decide +kernel
theorem dJ0_indexOf_7cf53_12 : decode cJ0_indexOf_7cf53 12 = .ok (.iload_n 2, 1) := by decide +kernel
theorem dJ0_indexOf_7cf53_13 : decode cJ0_indexOf_7cf53 13 = .ok (.aload_n 0, 1) := by decide +kernel
theorem dJ0_indexOf_7cf53_14 : decode cJ0_indexOf_7cf53 14 = .ok (.invokevirtual 505, 3) := by decide +kernel
theorem dJ0_indexOf_7cf53_17 : decode cJ0_indexOf_7cf53 17 = .ok (.invokestatic 637, 3) := by decide +kernel
theorem dJ0_indexOf_7cf53_20 : decode cJ0_indexOf_7cf53 20 = .ok (.goto 16, 3) := by decide +kernel
theorem dJ0_indexOf_7cf53_23 : decode cJ0_indexOf_7cf53 23 = .ok (.aload_n 0, 1) := by decide +kernel
theorem dJ0_indexOf_7cf53_24 : decode cJ0_indexOf_7cf53 24 = .ok (.getfield 9, 3) := by decide +kernel
theorem dJ0_indexOf_7cf53_27 : decode cJ0_indexOf_7cf53 27 = .ok (.iload_n 1, 1) := by decide +kernel
theorem dJ0_indexOf_7cf53_28 : decode cJ0_indexOf_7cf53 28 = .ok (.iload_n 2, 1) := by decide +kernel
theorem dJ0_indexOf_7cf53_29 : decode cJ0_indexOf_7cf53 29 = .ok (.aload_n 0, 1) := by decide +kernel
theorem dJ0_indexOf_7cf53_30 : decode cJ0_indexOf_7cf53 30 = .ok (.invokevirtual 505, 3) := by decide +kernel
theorem dJ0_indexOf_7cf53_33 : decode cJ0_indexOf_7cf53 33 = .ok (.invokestatic 640, 3) := by decide +kernel
theorem dJ0_indexOf_7cf53_36 : decode cJ0_indexOf_7cf53 36 = .ok (.ireturn, 1) := by decide +kernel
theorem dJ0_coder_7d493_0 : decode cJ0_coder_7d493 0 = .ok (.getstatic 38, 3) := by decide +kernel
theorem dJ0_coder_7d493_3 : decode cJ0_coder_7d493 3 = .ok (.ifCond .eq 10, 3) := by decide +kernel
theorem dJ0_coder_7d493_6 : decode cJ0_coder_7d493 6 = .ok (.aload_n 0, 1) := by decide +kernel
theorem dJ0_coder_7d493_7 : decode cJ0_coder_7d493 7 = .ok (.getfield 15, 3) := by decide +kernel
theorem dJ0_coder_7d493_10 : decode cJ0_coder_7d493 10 = .ok (.goto 4, 3) := by decide +kernel
theorem dJ0_coder_7d493_13 : decode cJ0_coder_7d493 13 = .ok (.iconst 1, 1) := by decide +kernel
theorem dJ0_coder_7d493_14 : decode cJ0_coder_7d493 14 = .ok (.ireturn, 1) := by decide +kernel
theorem dJ0_isLatin1_aae02_0 : decode cJ0_isLatin1_aae02 0 = .ok (.getstatic 38, 3) := by decide +kernel
theorem dJ0_isLatin1_aae02_3 : decode cJ0_isLatin1_aae02 3 = .ok (.ifCond .eq 14, 3) := by decide +kernel
theorem dJ0_isLatin1_aae02_6 : decode cJ0_isLatin1_aae02 6 = .ok (.aload_n 0, 1) := by decide +kernel
theorem dJ0_isLatin1_aae02_7 : decode cJ0_isLatin1_aae02 7 = .ok (.getfield 15, 3) := by decide +kernel
theorem dJ0_isLatin1_aae02_10 : decode cJ0_isLatin1_aae02 10 = .ok (.ifCond .ne 7, 3) := by decide +kernel
theorem dJ0_isLatin1_aae02_13 : decode cJ0_isLatin1_aae02 13 = .ok (.iconst 1, 1) := by decide +kernel
theorem dJ0_isLatin1_aae02_14 : decode cJ0_isLatin1_aae02 14 = .ok (.goto 4, 3) := by decide +kernel
theorem dJ0_isLatin1_aae02_17 : decode cJ0_isLatin1_aae02 17 = .ok (.iconst 0, 1) := by decide +kernel
theorem dJ0_isLatin1_aae02_18 : decode cJ0_isLatin1_aae02 18 = .ok (.ireturn, 1) := by decide +kernel
theorem dJ0_checkIndex_df160_0 : decode cJ0_checkIndex_df160 0 = .ok (.iload_n 0, 1) := by decide +kernel
theorem dJ0_checkIndex_df160_1 : decode cJ0_checkIndex_df160 1 = .ok (.iload_n 1, 1) := by decide +kernel
theorem dJ0_checkIndex_df160_2 : decode cJ0_checkIndex_df160 2 = .ok (.getstatic 1053, 3) := by decide +kernel
theorem dJ0_checkIndex_df160_5 : decode cJ0_checkIndex_df160 5 = .ok (.invokestatic 1059, 3) := by decide +kernel
theorem dJ0_checkIndex_df160_8 : decode cJ0_checkIndex_df160 8 = .ok (.pop, 1) := by decide +kernel
theorem dJ0_checkIndex_df160_9 : decode cJ0_checkIndex_df160 9 = .ok (.return_, 1) := by decide +kernel
theorem dJ0_checkBoundsBeginEnd_23922_0 : decode cJ0_checkBoundsBeginEnd_23922 0 = .ok (.iload_n 0, 1) := by decide +kernel
theorem dJ0_checkBoundsBeginEnd_23922_1 : decode cJ0_checkBoundsBeginEnd_23922 1 = .ok (.iload_n 1, 1) := by decide +kernel
theorem dJ0_checkBoundsBeginEnd_23922_2 : decode cJ0_checkBoundsBeginEnd_23922 2 = .ok (.iload_n 2, 1) := by decide +kernel
theorem dJ0_checkBoundsBeginEnd_23922_3 : decode cJ0_checkBoundsBeginEnd_23922 3 = .ok (.getstatic 1053, 3) := by decide +kernel
theorem dJ0_checkBoundsBeginEnd_23922_6 : decode cJ0_checkBoundsBeginEnd_23922 6 = .ok (.invokestatic 1062, 3) := by decide +kernel
theorem dJ0_checkBoundsBeginEnd_23922_9 : decode cJ0_checkBoundsBeginEnd_23922 9 = .ok (.pop, 1) := by decide +kernel
theorem dJ0_checkBoundsBeginEnd_23922_10 : decode cJ0_checkBoundsBeginEnd_23922 10 = .ok (.return_, 1) := by decide +kernel
theorem dJ1_charAt_3b067_0 : decode cJ1_charAt_3b067 0 = .ok (.iload_n 1, 1) := by decide +kernel
theorem dJ1_charAt_3b067_1 : decode cJ1_charAt_3b067 1 = .ok (.aload_n 0, 1) := by decide +kernel
theorem dJ1_charAt_3b067_2 : decode cJ1_charAt_3b067 2 = .ok (.arraylength, 1) := by decide +kernel
theorem dJ1_charAt_3b067_3 : decode cJ1_charAt_3b067 3 = .ok (.invokestatic 9, 3) := by decide +kernel
theorem dJ1_charAt_3b067_6 : decode cJ1_charAt_3b067 6 = .ok (.aload_n 0, 1) := by decide +kernel
theorem dJ1_charAt_3b067_7 : decode cJ1_charAt_3b067 7 = .ok (.iload_n 1, 1) := by decide +kernel
theorem dJ1_charAt_3b067_8 : decode cJ1_charAt_3b067 8 = .ok (.baload, 1) := by decide +kernel
theorem dJ1_charAt_3b067_9 : decode cJ1_charAt_3b067 9 = .ok (.sipush 255, 3) := by decide +kernel
theorem dJ1_charAt_3b067_12 : decode cJ1_charAt_3b067 12 = .ok (.iand, 1) := by decide +kernel
theorem dJ1_charAt_3b067_13 : decode cJ1_charAt_3b067 13 = .ok (.i2c, 1) := by decide +kernel
theorem dJ1_charAt_3b067_14 : decode cJ1_charAt_3b067 14 = .ok (.ireturn, 1) := by decide +kernel
theorem dJ1_canEncode_9a6ad_0 : decode cJ1_canEncode_9a6ad 0 = .ok (.iload_n 0, 1) := by decide +kernel
theorem dJ1_canEncode_9a6ad_1 : decode cJ1_canEncode_9a6ad 1 = .ok (.ifCond .lt 14, 3) := by decide +kernel
theorem dJ1_canEncode_9a6ad_4 : decode cJ1_canEncode_9a6ad 4 = .ok (.iload_n 0, 1) := by decide +kernel
theorem dJ1_canEncode_9a6ad_5 : decode cJ1_canEncode_9a6ad 5 = .ok (.sipush 255, 3) := by decide +kernel
theorem dJ1_canEncode_9a6ad_8 : decode cJ1_canEncode_9a6ad 8 = .ok (.if_icmp .gt 7, 3) := by decide +kernel
theorem dJ1_canEncode_9a6ad_11 : decode cJ1_canEncode_9a6ad 11 = .ok (.iconst 1, 1) := by decide +kernel
theorem dJ1_canEncode_9a6ad_12 : decode cJ1_canEncode_9a6ad 12 = .ok (.goto 4, 3) := by decide +kernel
theorem dJ1_canEncode_9a6ad_15 : decode cJ1_canEncode_9a6ad 15 = .ok (.iconst 0, 1) := by decide +kernel
theorem dJ1_canEncode_9a6ad_16 : decode cJ1_canEncode_9a6ad 16 = .ok (.ireturn, 1) := by decide +kernel
theorem dJ1_indexOf_4cfef_0 : decode cJ1_indexOf_4cfef 0 = .ok (.iload_n 1, 1) := by decide +kernel
theorem dJ1_indexOf_4cfef_1 : decode cJ1_indexOf_4cfef 1 = .ok (.invokestatic 88, 3) := by decide +kernel
theorem dJ1_indexOf_4cfef_4 : decode cJ1_indexOf_4cfef 4 = .ok (.ifCond .ne 5, 3) := by decide +kernel
theorem dJ1_indexOf_4cfef_7 : decode cJ1_indexOf_4cfef 7 = .ok (.iconst (-1), 1) := by decide +kernel
theorem dJ1_indexOf_4cfef_8 : decode cJ1_indexOf_4cfef 8 = .ok (.ireturn, 1) := by decide +kernel
theorem dJ1_indexOf_4cfef_9 : decode cJ1_indexOf_4cfef 9 = .ok (.iload_n 2, 1) := by decide +kernel
theorem dJ1_indexOf_4cfef_10 : decode cJ1_indexOf_4cfef 10 = .ok (.iconst 0, 1) := by decide +kernel
theorem dJ1_indexOf_4cfef_11 : decode cJ1_indexOf_4cfef 11 = .ok (.invokestatic 92, 3) := by decide +kernel
theorem dJ1_indexOf_4cfef_14 : decode cJ1_indexOf_4cfef 14 = .ok (.istore_n 2, 1) := by decide +kernel
theorem dJ1_indexOf_4cfef_15 : decode cJ1_indexOf_4cfef 15 = .ok (.iload_n 3, 1) := by decide +kernel
theorem dJ1_indexOf_4cfef_16 : decode cJ1_indexOf_4cfef 16 = .ok (.aload_n 0, 1) := by decide +kernel
theorem dJ1_indexOf_4cfef_17 : decode cJ1_indexOf_4cfef 17 = .ok (.arraylength, 1) := by decide +kernel
theorem dJ1_indexOf_4cfef_18 : decode cJ1_indexOf_4cfef 18 = .ok (.invokestatic 38, 3) := by decide +kernel
theorem dJ1_indexOf_4cfef_21 : decode cJ1_indexOf_4cfef 21 = .ok (.istore_n 3, 1) := by decide +kernel
theorem dJ1_indexOf_4cfef_22 : decode cJ1_indexOf_4cfef 22 = .ok (.iload_n 2, 1) := by decide +kernel
theorem dJ1_indexOf_4cfef_23 : decode cJ1_indexOf_4cfef 23 = .ok (.iload_n 3, 1) := by decide +kernel
theorem dJ1_indexOf_4cfef_24 : decode cJ1_indexOf_4cfef 24 = .ok (.if_icmp .lt 5, 3) := by decide +kernel
theorem dJ1_indexOf_4cfef_27 : decode cJ1_indexOf_4cfef 27 = .ok (.iconst (-1), 1) := by decide +kernel
theorem dJ1_indexOf_4cfef_28 : decode cJ1_indexOf_4cfef 28 = .ok (.ireturn, 1) := by decide +kernel
theorem dJ1_indexOf_4cfef_29 : decode cJ1_indexOf_4cfef 29 = .ok (.aload_n 0, 1) := by decide +kernel
theorem dJ1_indexOf_4cfef_30 : decode cJ1_indexOf_4cfef 30 = .ok (.iload_n 1, 1) := by decide +kernel
theorem dJ1_indexOf_4cfef_31 : decode cJ1_indexOf_4cfef 31 = .ok (.iload_n 2, 1) := by decide +kernel
theorem dJ1_indexOf_4cfef_32 : decode cJ1_indexOf_4cfef 32 = .ok (.iload_n 3, 1) := by decide +kernel
theorem dJ1_indexOf_4cfef_33 : decode cJ1_indexOf_4cfef 33 = .ok (.invokestatic 95, 3) := by decide +kernel
theorem dJ1_indexOf_4cfef_36 : decode cJ1_indexOf_4cfef 36 = .ok (.ireturn, 1) := by decide +kernel
theorem dJ1_indexOfChar_4cfef_0 : decode cJ1_indexOfChar_4cfef 0 = .ok (.iload_n 1, 1) := by decide +kernel
theorem dJ1_indexOfChar_4cfef_1 : decode cJ1_indexOfChar_4cfef 1 = .ok (.i2b, 1) := by decide +kernel
theorem dJ1_indexOfChar_4cfef_2 : decode cJ1_indexOfChar_4cfef 2 = .ok (.istore 4, 2) := by decide +kernel
theorem dJ1_indexOfChar_4cfef_4 : decode cJ1_indexOfChar_4cfef 4 = .ok (.iload_n 2, 1) := by decide +kernel
theorem dJ1_indexOfChar_4cfef_5 : decode cJ1_indexOfChar_4cfef 5 = .ok (.istore 5, 2) := by decide +kernel
theorem dJ1_indexOfChar_4cfef_7 : decode cJ1_indexOfChar_4cfef 7 = .ok (.iload 5, 2) := by decide +kernel
theorem dJ1_indexOfChar_4cfef_9 : decode cJ1_indexOfChar_4cfef 9 = .ok (.iload_n 3, 1) := by decide +kernel
theorem dJ1_indexOfChar_4cfef_10 : decode cJ1_indexOfChar_4cfef 10 = .ok (.if_icmp .ge 21, 3) := by decide +kernel
theorem dJ1_indexOfChar_4cfef_13 : decode cJ1_indexOfChar_4cfef 13 = .ok (.aload_n 0, 1) := by decide +kernel
theorem dJ1_indexOfChar_4cfef_14 : decode cJ1_indexOfChar_4cfef 14 = .ok (.iload 5, 2) := by decide +kernel
theorem dJ1_indexOfChar_4cfef_16 : decode cJ1_indexOfChar_4cfef 16 = .ok (.baload, 1) := by decide +kernel
theorem dJ1_indexOfChar_4cfef_17 : decode cJ1_indexOfChar_4cfef 17 = .ok (.iload 4, 2) := by decide +kernel
theorem dJ1_indexOfChar_4cfef_19 : decode cJ1_indexOfChar_4cfef 19 = .ok (.if_icmp .ne 6, 3) := by decide +kernel
theorem dJ1_indexOfChar_4cfef_22 : decode cJ1_indexOfChar_4cfef 22 = .ok (.iload 5, 2) := by decide +kernel
theorem dJ1_indexOfChar_4cfef_24 : decode cJ1_indexOfChar_4cfef 24 = .ok (.ireturn, 1) := by decide +kernel
theorem dJ1_indexOfChar_4cfef_25 : decode cJ1_indexOfChar_4cfef 25 = .ok (.iinc 5 1, 3) := by decide +kernel
theorem dJ1_indexOfChar_4cfef_28 : decode cJ1_indexOfChar_4cfef 28 = .ok (.goto (-21), 3) := by decide +kernel
theorem dJ1_indexOfChar_4cfef_31 : decode cJ1_indexOfChar_4cfef 31 = .ok (.iconst (-1), 1) := by decide +kernel
theorem dJ1_indexOfChar_4cfef_32 : decode cJ1_indexOfChar_4cfef 32 = .ok (.ireturn, 1) := by decide +kernel
theorem dJ2_getChar_3b067_0 : decode cJ2_getChar_3b067 0 = .ok (.getstatic 44, 3) := by decide +kernel
theorem dJ2_getChar_3b067_3 : decode cJ2_getChar_3b067 3 = .ok (.ifCond .ne 25, 3) := by decide +kernel
theorem dJ2_getChar_3b067_6 : decode cJ2_getChar_3b067 6 = .ok (.iload_n 1, 1) := by decide +kernel
theorem dJ2_getChar_3b067_7 : decode cJ2_getChar_3b067 7 = .ok (.ifCond .lt 11, 3) := by decide +kernel
theorem dJ2_getChar_3b067_10 : decode cJ2_getChar_3b067 10 = .ok (.iload_n 1, 1) := by decide +kernel
theorem dJ2_getChar_3b067_11 : decode cJ2_getChar_3b067 11 = .ok (.aload_n 0, 1) := by decide +kernel
theorem dJ2_getChar_3b067_12 : decode cJ2_getChar_3b067 12 = .ok (.invokestatic 48, 3) := by decide +kernel
theorem dJ2_getChar_3b067_15 : decode cJ2_getChar_3b067 15 = .ok (.if_icmp .lt 13, 3) := by decide +kernel
theorem dJ2_getChar_3b067_18 : decode cJ2_getChar_3b067 18 = .ok (.new 52, 3) := by decide +kernel
theorem dJ2_getChar_3b067_21 : decode cJ2_getChar_3b067 21 = .ok (.dup, 1) := by decide +kernel
theorem dJ2_getChar_3b067_22 : decode cJ2_getChar_3b067 22 = .ok (.ldc 54, 2) := by decide +kernel
theorem dJ2_getChar_3b067_24 : decode cJ2_getChar_3b067 24 = .ok (.invokespecial 56, 3) := by decide +kernel
theorem dJ2_getChar_3b067_27 : decode cJ2_getChar_3b067 27 = .ok (.athrow, 1) := by decide +kernel
theorem dJ2_getChar_3b067_28 : decode cJ2_getChar_3b067 28 = .ok (.iload_n 1, 1) := by decide +kernel
theorem dJ2_getChar_3b067_29 : decode cJ2_getChar_3b067 29 = .ok (.iconst 1, 1) := by decide +kernel
theorem dJ2_getChar_3b067_30 : decode cJ2_getChar_3b067 30 = .ok (.ishl, 1) := by decide +kernel
theorem dJ2_getChar_3b067_31 : decode cJ2_getChar_3b067 31 = .ok (.istore_n 1, 1) := by decide +kernel
theorem dJ2_getChar_3b067_32 : decode cJ2_getChar_3b067 32 = .ok (.aload_n 0, 1) := by decide +kernel
theorem dJ2_getChar_3b067_33 : decode cJ2_getChar_3b067 33 = .ok (.iload_n 1, 1) := by decide +kernel
theorem dJ2_getChar_3b067_34 : decode cJ2_getChar_3b067 34 = .ok (.iinc 1 1, 3) := by decide +kernel
theorem dJ2_getChar_3b067_37 : decode cJ2_getChar_3b067 37 = .ok (.baload, 1) := by decide +kernel
theorem dJ2_getChar_3b067_38 : decode cJ2_getChar_3b067 38 = .ok (.sipush 255, 3) := by decide +kernel
theorem dJ2_getChar_3b067_41 : decode cJ2_getChar_3b067 41 = .ok (.iand, 1) := by decide +kernel
theorem dJ2_getChar_3b067_42 : decode cJ2_getChar_3b067 42 = .ok (.getstatic 59, 3) := by decide +kernel
theorem dJ2_getChar_3b067_45 : decode cJ2_getChar_3b067 45 = .ok (.ishl, 1) := by decide +kernel
theorem dJ2_getChar_3b067_46 : decode cJ2_getChar_3b067 46 = .ok (.aload_n 0, 1) := by decide +kernel
theorem dJ2_getChar_3b067_47 : decode cJ2_getChar_3b067 47 = .ok (.iload_n 1, 1) := by decide +kernel
theorem dJ2_getChar_3b067_48 : decode cJ2_getChar_3b067 48 = .ok (.baload, 1) := by decide +kernel
theorem dJ2_getChar_3b067_49 : decode cJ2_getChar_3b067 49 = .ok (.sipush 255, 3) := by decide +kernel
theorem dJ2_getChar_3b067_52 : decode cJ2_getChar_3b067 52 = .ok (.iand, 1) := by decide +kernel
theorem dJ2_getChar_3b067_53 : decode cJ2_getChar_3b067 53 = .ok (.getstatic 63, 3) := by decide +kernel
theorem dJ2_getChar_3b067_56 : decode cJ2_getChar_3b067 56 = .ok (.ishl, 1) := by decide +kernel
theorem dJ2_getChar_3b067_57 : decode cJ2_getChar_3b067 57 = .ok (.ior, 1) := by decide +kernel
theorem dJ2_getChar_3b067_58 : decode cJ2_getChar_3b067 58 = .ok (.i2c, 1) := by decide +kernel
theorem dJ2_getChar_3b067_59 : decode cJ2_getChar_3b067 59 = .ok (.ireturn, 1) := by decide +kernel
theorem dJ2_length_9d52b_0 : decode cJ2_length_9d52b 0 = .ok (.aload_n 0, 1) := by decide +kernel
theorem dJ2_length_9d52b_1 : decode cJ2_length_9d52b 1 = .ok (.arraylength, 1) := by decide +kernel
theorem dJ2_length_9d52b_2 : decode cJ2_length_9d52b 2 = .ok (.iconst 1, 1) := by decide +kernel
theorem dJ2_length_9d52b_3 : decode cJ2_length_9d52b 3 = .ok (.ishr, 1) := by decide +kernel
theorem dJ2_length_9d52b_4 : decode cJ2_length_9d52b 4 = .ok (.ireturn, 1) := by decide +kernel
theorem dJ2_indexOf_4cfef_0 : decode cJ2_indexOf_4cfef 0 = .ok (.iload_n 2, 1) := by decide +kernel
theorem dJ2_indexOf_4cfef_1 : decode cJ2_indexOf_4cfef 1 = .ok (.iconst 0, 1) := by decide +kernel
theorem dJ2_indexOf_4cfef_2 : decode cJ2_indexOf_4cfef 2 = .ok (.invokestatic 224, 3) := by decide +kernel
theorem dJ2_indexOf_4cfef_5 : decode cJ2_indexOf_4cfef 5 = .ok (.istore_n 2, 1) := by decide +kernel
theorem dJ2_indexOf_4cfef_6 : decode cJ2_indexOf_4cfef 6 = .ok (.iload_n 3, 1) := by decide +kernel
theorem dJ2_indexOf_4cfef_7 : decode cJ2_indexOf_4cfef 7 = .ok (.aload_n 0, 1) := by decide +kernel
theorem dJ2_indexOf_4cfef_8 : decode cJ2_indexOf_4cfef 8 = .ok (.arraylength, 1) := by decide +kernel
theorem dJ2_indexOf_4cfef_9 : decode cJ2_indexOf_4cfef 9 = .ok (.iconst 1, 1) := by decide +kernel
theorem dJ2_indexOf_4cfef_10 : decode cJ2_indexOf_4cfef 10 = .ok (.ishr, 1) := by decide +kernel
theorem dJ2_indexOf_4cfef_11 : decode cJ2_indexOf_4cfef 11 = .ok (.invokestatic 183, 3) := by decide +kernel
theorem dJ2_indexOf_4cfef_14 : decode cJ2_indexOf_4cfef 14 = .ok (.istore_n 3, 1) := by decide +kernel
theorem dJ2_indexOf_4cfef_15 : decode cJ2_indexOf_4cfef 15 = .ok (.iload_n 2, 1) := by decide +kernel
theorem dJ2_indexOf_4cfef_16 : decode cJ2_indexOf_4cfef 16 = .ok (.iload_n 3, 1) := by decide +kernel
theorem dJ2_indexOf_4cfef_17 : decode cJ2_indexOf_4cfef 17 = .ok (.if_icmp .lt 5, 3) := by decide +kernel
theorem dJ2_indexOf_4cfef_20 : decode cJ2_indexOf_4cfef 20 = .ok (.iconst (-1), 1) := by decide +kernel
theorem dJ2_indexOf_4cfef_21 : decode cJ2_indexOf_4cfef 21 = .ok (.ireturn, 1) := by decide +kernel
theorem dJ2_indexOf_4cfef_22 : decode cJ2_indexOf_4cfef 22 = .ok (.iload_n 1, 1) := by decide +kernel
theorem dJ2_indexOf_4cfef_23 : decode cJ2_indexOf_4cfef 23 = .ok (.ldc 227, 2) := by decide +kernel
theorem dJ2_indexOf_4cfef_25 : decode cJ2_indexOf_4cfef 25 = .ok (.if_icmp .ge 11, 3) := by decide +kernel
theorem dJ2_indexOf_4cfef_28 : decode cJ2_indexOf_4cfef 28 = .ok (.aload_n 0, 1) := by decide +kernel
theorem dJ2_indexOf_4cfef_29 : decode cJ2_indexOf_4cfef 29 = .ok (.iload_n 1, 1) := by decide +kernel
theorem dJ2_indexOf_4cfef_30 : decode cJ2_indexOf_4cfef 30 = .ok (.iload_n 2, 1) := by decide +kernel
theorem dJ2_indexOf_4cfef_31 : decode cJ2_indexOf_4cfef 31 = .ok (.iload_n 3, 1) := by decide +kernel
theorem dJ2_indexOf_4cfef_32 : decode cJ2_indexOf_4cfef 32 = .ok (.invokestatic 228, 3) := by decide +kernel
theorem dJ2_indexOf_4cfef_35 : decode cJ2_indexOf_4cfef 35 = .ok (.ireturn, 1) := by decide +kernel
theorem dJ2_indexOf_4cfef_36 : decode cJ2_indexOf_4cfef 36 = .ok (.aload_n 0, 1) := by decide +kernel
theorem dJ2_indexOf_4cfef_37 : decode cJ2_indexOf_4cfef 37 = .ok (.iload_n 1, 1) := by decide +kernel
theorem dJ2_indexOf_4cfef_38 : decode cJ2_indexOf_4cfef 38 = .ok (.iload_n 2, 1) := by decide +kernel
theorem dJ2_indexOf_4cfef_39 : decode cJ2_indexOf_4cfef 39 = .ok (.iload_n 3, 1) := by decide +kernel
theorem dJ2_indexOf_4cfef_40 : decode cJ2_indexOf_4cfef 40 = .ok (.invokestatic 232, 3) := by decide +kernel
theorem dJ2_indexOf_4cfef_43 : decode cJ2_indexOf_4cfef 43 = .ok (.ireturn, 1) := by decide +kernel
theorem dJ2_indexOfChar_4cfef_0 : decode cJ2_indexOfChar_4cfef 0 = .ok (.iload_n 2, 1) := by decide +kernel
theorem dJ2_indexOfChar_4cfef_1 : decode cJ2_indexOfChar_4cfef 1 = .ok (.iload_n 3, 1) := by decide +kernel
theorem dJ2_indexOfChar_4cfef_2 : decode cJ2_indexOfChar_4cfef 2 = .ok (.aload_n 0, 1) := by decide +kernel
theorem dJ2_indexOfChar_4cfef_3 : decode cJ2_indexOfChar_4cfef 3 = .ok (.invokestatic 96, 3) := by decide +kernel
theorem dJ2_indexOfChar_4cfef_6 : decode cJ2_indexOfChar_4cfef 6 = .ok (.aload_n 0, 1) := by decide +kernel
theorem dJ2_indexOfChar_4cfef_7 : decode cJ2_indexOfChar_4cfef 7 = .ok (.iload_n 1, 1) := by decide +kernel
theorem dJ2_indexOfChar_4cfef_8 : decode cJ2_indexOfChar_4cfef 8 = .ok (.iload_n 2, 1) := by decide +kernel
theorem dJ2_indexOfChar_4cfef_9 : decode cJ2_indexOfChar_4cfef 9 = .ok (.iload_n 3, 1) := by decide +kernel
theorem dJ2_indexOfChar_4cfef_10 : decode cJ2_indexOfChar_4cfef 10 = .ok (.invokestatic 244, 3) := by decide +kernel
theorem dJ2_indexOfChar_4cfef_13 : decode cJ2_indexOfChar_4cfef 13 = .ok (.ireturn, 1) := by decide +kernel
theorem dJ2_indexOfCharUnsafe_4cfef_0 : decode cJ2_indexOfCharUnsafe_4cfef 0 = .ok (.iload_n 2, 1) := by decide +kernel
theorem dJ2_indexOfCharUnsafe_4cfef_1 : decode cJ2_indexOfCharUnsafe_4cfef 1 = .ok (.istore 4, 2) := by decide +kernel
theorem dJ2_indexOfCharUnsafe_4cfef_3 : decode cJ2_indexOfCharUnsafe_4cfef 3 = .ok (.iload 4, 2) := by decide +kernel
theorem dJ2_indexOfCharUnsafe_4cfef_5 : decode cJ2_indexOfCharUnsafe_4cfef 5 = .ok (.iload_n 3, 1) := by decide +kernel
theorem dJ2_indexOfCharUnsafe_4cfef_6 : decode cJ2_indexOfCharUnsafe_4cfef 6 = .ok (.if_icmp .ge 22, 3) := by decide +kernel
theorem dJ2_indexOfCharUnsafe_4cfef_9 : decode cJ2_indexOfCharUnsafe_4cfef 9 = .ok (.aload_n 0, 1) := by decide +kernel
theorem dJ2_indexOfCharUnsafe_4cfef_10 : decode cJ2_indexOfCharUnsafe_4cfef 10 = .ok (.iload 4, 2) := by decide +kernel
theorem dJ2_indexOfCharUnsafe_4cfef_12 : decode cJ2_indexOfCharUnsafe_4cfef 12 = .ok (.invokestatic 71, 3) := by decide +kernel
theorem dJ2_indexOfCharUnsafe_4cfef_15 : decode cJ2_indexOfCharUnsafe_4cfef 15 = .ok (.iload_n 1, 1) := by decide +kernel
theorem dJ2_indexOfCharUnsafe_4cfef_16 : decode cJ2_indexOfCharUnsafe_4cfef 16 = .ok (.if_icmp .ne 6, 3) := by decide +kernel
theorem dJ2_indexOfCharUnsafe_4cfef_19 : decode cJ2_indexOfCharUnsafe_4cfef 19 = .ok (.iload 4, 2) := by decide +kernel
theorem dJ2_indexOfCharUnsafe_4cfef_21 : decode cJ2_indexOfCharUnsafe_4cfef 21 = .ok (.ireturn, 1) := by decide +kernel
theorem dJ2_indexOfCharUnsafe_4cfef_22 : decode cJ2_indexOfCharUnsafe_4cfef 22 = .ok (.iinc 4 1, 3) := by decide +kernel
theorem dJ2_indexOfCharUnsafe_4cfef_25 : decode cJ2_indexOfCharUnsafe_4cfef 25 = .ok (.goto (-22), 3) := by decide +kernel
theorem dJ2_indexOfCharUnsafe_4cfef_28 : decode cJ2_indexOfCharUnsafe_4cfef 28 = .ok (.iconst (-1), 1) := by decide +kernel
theorem dJ2_indexOfCharUnsafe_4cfef_29 : decode cJ2_indexOfCharUnsafe_4cfef 29 = .ok (.ireturn, 1) := by decide +kernel
theorem dJ2_indexOfSupplementary_4cfef_0 : decode cJ2_indexOfSupplementary_4cfef 0 = .ok (.iload_n 1, 1) := by decide +kernel
theorem dJ2_indexOfSupplementary_4cfef_1 : decode cJ2_indexOfSupplementary_4cfef 1 = .ok (.invokestatic 164, 3) := by decide +kernel
theorem dJ2_indexOfSupplementary_4cfef_4 : decode cJ2_indexOfSupplementary_4cfef 4 = .ok (.ifCond .eq 65, 3) := by decide +kernel
theorem dJ2_indexOfSupplementary_4cfef_7 : decode cJ2_indexOfSupplementary_4cfef 7 = .ok (.iload_n 1, 1) := by decide +kernel
theorem dJ2_indexOfSupplementary_4cfef_8 : decode cJ2_indexOfSupplementary_4cfef 8 = .ok (.invokestatic 157, 3) := by decide +kernel
theorem dJ2_indexOfSupplementary_4cfef_11 : decode cJ2_indexOfSupplementary_4cfef 11 = .ok (.istore 4, 2) := by decide +kernel
theorem dJ2_indexOfSupplementary_4cfef_13 : decode cJ2_indexOfSupplementary_4cfef 13 = .ok (.iload_n 1, 1) := by decide +kernel
theorem dJ2_indexOfSupplementary_4cfef_14 : decode cJ2_indexOfSupplementary_4cfef 14 = .ok (.invokestatic 161, 3) := by decide +kernel
theorem dJ2_indexOfSupplementary_4cfef_17 : decode cJ2_indexOfSupplementary_4cfef 17 = .ok (.istore 5, 2) := by decide +kernel
theorem dJ2_indexOfSupplementary_4cfef_19 : decode cJ2_indexOfSupplementary_4cfef 19 = .ok (.iload_n 2, 1) := by decide +kernel
theorem dJ2_indexOfSupplementary_4cfef_20 : decode cJ2_indexOfSupplementary_4cfef 20 = .ok (.iload_n 3, 1) := by decide +kernel
theorem dJ2_indexOfSupplementary_4cfef_21 : decode cJ2_indexOfSupplementary_4cfef 21 = .ok (.aload_n 0, 1) := by decide +kernel
theorem dJ2_indexOfSupplementary_4cfef_22 : decode cJ2_indexOfSupplementary_4cfef 22 = .ok (.invokestatic 96, 3) := by decide +kernel
theorem dJ2_indexOfSupplementary_4cfef_25 : decode cJ2_indexOfSupplementary_4cfef 25 = .ok (.iload_n 2, 1) := by decide +kernel
theorem dJ2_indexOfSupplementary_4cfef_26 : decode cJ2_indexOfSupplementary_4cfef 26 = .ok (.istore 6, 2) := by decide +kernel
theorem dJ2_indexOfSupplementary_4cfef_28 : decode cJ2_indexOfSupplementary_4cfef 28 = .ok (.iload 6, 2) := by decide +kernel
theorem dJ2_indexOfSupplementary_4cfef_30 : decode cJ2_indexOfSupplementary_4cfef 30 = .ok (.iload_n 3, 1) := by decide +kernel
theorem dJ2_indexOfSupplementary_4cfef_31 : decode cJ2_indexOfSupplementary_4cfef 31 = .ok (.iconst 1, 1) := by decide +kernel
theorem dJ2_indexOfSupplementary_4cfef_32 : decode cJ2_indexOfSupplementary_4cfef 32 = .ok (.isub, 1) := by decide +kernel
theorem dJ2_indexOfSupplementary_4cfef_33 : decode cJ2_indexOfSupplementary_4cfef 33 = .ok (.if_icmp .ge 36, 3) := by decide +kernel
theorem dJ2_indexOfSupplementary_4cfef_36 : decode cJ2_indexOfSupplementary_4cfef 36 = .ok (.aload_n 0, 1) := by decide +kernel
theorem dJ2_indexOfSupplementary_4cfef_37 : decode cJ2_indexOfSupplementary_4cfef 37 = .ok (.iload 6, 2) := by decide +kernel
theorem dJ2_indexOfSupplementary_4cfef_39 : decode cJ2_indexOfSupplementary_4cfef 39 = .ok (.invokestatic 71, 3) := by decide +kernel
theorem dJ2_indexOfSupplementary_4cfef_42 : decode cJ2_indexOfSupplementary_4cfef 42 = .ok (.iload 4, 2) := by decide +kernel
theorem dJ2_indexOfSupplementary_4cfef_44 : decode cJ2_indexOfSupplementary_4cfef 44 = .ok (.if_icmp .ne 19, 3) := by decide +kernel
theorem dJ2_indexOfSupplementary_4cfef_47 : decode cJ2_indexOfSupplementary_4cfef 47 = .ok (.aload_n 0, 1) := by decide +kernel
theorem dJ2_indexOfSupplementary_4cfef_48 : decode cJ2_indexOfSupplementary_4cfef 48 = .ok (.iload 6, 2) := by decide +kernel
theorem dJ2_indexOfSupplementary_4cfef_50 : decode cJ2_indexOfSupplementary_4cfef 50 = .ok (.iconst 1, 1) := by decide +kernel
theorem dJ2_indexOfSupplementary_4cfef_51 : decode cJ2_indexOfSupplementary_4cfef 51 = .ok (.iadd, 1) := by decide +kernel
theorem dJ2_indexOfSupplementary_4cfef_52 : decode cJ2_indexOfSupplementary_4cfef 52 = .ok (.invokestatic 71, 3) := by decide +kernel
theorem dJ2_indexOfSupplementary_4cfef_55 : decode cJ2_indexOfSupplementary_4cfef 55 = .ok (.iload 5, 2) := by decide +kernel
theorem dJ2_indexOfSupplementary_4cfef_57 : decode cJ2_indexOfSupplementary_4cfef 57 = .ok (.if_icmp .ne 6, 3) := by decide +kernel
theorem dJ2_indexOfSupplementary_4cfef_60 : decode cJ2_indexOfSupplementary_4cfef 60 = .ok (.iload 6, 2) := by decide +kernel
theorem dJ2_indexOfSupplementary_4cfef_62 : decode cJ2_indexOfSupplementary_4cfef 62 = .ok (.ireturn, 1) := by decide +kernel
theorem dJ2_indexOfSupplementary_4cfef_63 : decode cJ2_indexOfSupplementary_4cfef 63 = .ok (.iinc 6 1, 3) := by decide +kernel
theorem dJ2_indexOfSupplementary_4cfef_66 : decode cJ2_indexOfSupplementary_4cfef 66 = .ok (.goto (-38), 3) := by decide +kernel
theorem dJ2_indexOfSupplementary_4cfef_69 : decode cJ2_indexOfSupplementary_4cfef 69 = .ok (.iconst (-1), 1) := by decide +kernel
theorem dJ2_indexOfSupplementary_4cfef_70 : decode cJ2_indexOfSupplementary_4cfef 70 = .ok (.ireturn, 1) := by decide +kernel
theorem dJ2_charAt_3b067_0 : decode cJ2_charAt_3b067 0 = .ok (.iload_n 1, 1) := by decide +kernel
theorem dJ2_charAt_3b067_1 : decode cJ2_charAt_3b067 1 = .ok (.aload_n 0, 1) := by decide +kernel
theorem dJ2_charAt_3b067_2 : decode cJ2_charAt_3b067 2 = .ok (.invokestatic 67, 3) := by decide +kernel
theorem dJ2_charAt_3b067_5 : decode cJ2_charAt_3b067 5 = .ok (.aload_n 0, 1) := by decide +kernel
theorem dJ2_charAt_3b067_6 : decode cJ2_charAt_3b067 6 = .ok (.iload_n 1, 1) := by decide +kernel
theorem dJ2_charAt_3b067_7 : decode cJ2_charAt_3b067 7 = .ok (.invokestatic 71, 3) := by decide +kernel
theorem dJ2_charAt_3b067_10 : decode cJ2_charAt_3b067 10 = .ok (.ireturn, 1) := by decide +kernel
theorem dJ2_checkIndex_2214a_0 : decode cJ2_checkIndex_2214a 0 = .ok (.iload_n 0, 1) := by decide +kernel
theorem dJ2_checkIndex_2214a_1 : decode cJ2_checkIndex_2214a 1 = .ok (.aload_n 1, 1) := by decide +kernel
theorem dJ2_checkIndex_2214a_2 : decode cJ2_checkIndex_2214a 2 = .ok (.invokestatic 48, 3) := by decide +kernel
theorem dJ2_checkIndex_2214a_5 : decode cJ2_checkIndex_2214a 5 = .ok (.invokestatic 414, 3) := by decide +kernel
theorem dJ2_checkIndex_2214a_8 : decode cJ2_checkIndex_2214a 8 = .ok (.return_, 1) := by decide +kernel
theorem dJ2_checkBoundsBeginEnd_d044e_0 : decode cJ2_checkBoundsBeginEnd_d044e 0 = .ok (.iload_n 0, 1) := by decide +kernel
theorem dJ2_checkBoundsBeginEnd_d044e_1 : decode cJ2_checkBoundsBeginEnd_d044e 1 = .ok (.iload_n 1, 1) := by decide +kernel
theorem dJ2_checkBoundsBeginEnd_d044e_2 : decode cJ2_checkBoundsBeginEnd_d044e 2 = .ok (.aload_n 2, 1) := by decide +kernel
theorem dJ2_checkBoundsBeginEnd_d044e_3 : decode cJ2_checkBoundsBeginEnd_d044e 3 = .ok (.invokestatic 48, 3) := by decide +kernel
theorem dJ2_checkBoundsBeginEnd_d044e_6 : decode cJ2_checkBoundsBeginEnd_d044e 6 = .ok (.invokestatic 241, 3) := by decide +kernel
theorem dJ2_checkBoundsBeginEnd_d044e_9 : decode cJ2_checkBoundsBeginEnd_d044e 9 = .ok (.return_, 1) := by decide +kernel
theorem dJxa1e45_init_da8c8_0 : decode cJxa1e45_init_da8c8 0 = .ok (.aload_n 0, 1) := by decide +kernel
theorem dJxa1e45_init_da8c8_1 : decode cJxa1e45_init_da8c8 1 = .ok (.invokespecial 1, 3) := by decide +kernel
theorem dJxa1e45_init_da8c8_4 : decode cJxa1e45_init_da8c8 4 = .ok (.return_, 1) := by decide +kernel
theorem dJxc12de_init_da8c8_0 : decode cJxc12de_init_da8c8 0 = .ok (.aload_n 0, 1) := by decide +kernel
theorem dJxc12de_init_da8c8_1 : decode cJxc12de_init_da8c8 1 = .ok (.invokespecial 1, 3) := by decide +kernel
theorem dJxc12de_init_da8c8_4 : decode cJxc12de_init_da8c8 4 = .ok (.aload_n 0, 1) := by decide +kernel
theorem dJxc12de_init_da8c8_5 : decode cJxc12de_init_da8c8 5 = .ok (.iconst 0, 1) := by decide +kernel
theorem dJxc12de_init_da8c8_6 : decode cJxc12de_init_da8c8 6 = .ok (.putfield 7, 3) := by decide +kernel
theorem dJxc12de_init_da8c8_9 : decode cJxc12de_init_da8c8 9 = .ok (.return_, 1) := by decide +kernel
theorem dJx4a65c_init_da8c8_0 : decode cJx4a65c_init_da8c8 0 = .ok (.aload_n 0, 1) := by decide +kernel
theorem dJx4a65c_init_da8c8_1 : decode cJx4a65c_init_da8c8 1 = .ok (.invokespecial 1, 3) := by decide +kernel
theorem dJx4a65c_init_da8c8_4 : decode cJx4a65c_init_da8c8 4 = .ok (.aload_n 0, 1) := by decide +kernel
theorem dJx4a65c_init_da8c8_5 : decode cJx4a65c_init_da8c8 5 = .ok (.getstatic 39, 3) := by decide +kernel
theorem dJx4a65c_init_da8c8_8 : decode cJx4a65c_init_da8c8 8 = .ok (.putfield 9, 3) := by decide +kernel
theorem dJx4a65c_init_da8c8_11 : decode cJx4a65c_init_da8c8 11 = .ok (.return_, 1) := by decide +kernel
theorem dJx4a65c_grow_92f84_0 : decode cJx4a65c_grow_92f84 0 = .ok (.aload_n 0, 1) := by decide +kernel
theorem dJx4a65c_grow_92f84_1 : decode cJx4a65c_grow_92f84 1 = .ok (.getfield 9, 3) := by decide +kernel
theorem dJx4a65c_grow_92f84_4 : decode cJx4a65c_grow_92f84 4 = .ok (.arraylength, 1) := by decide +kernel
theorem dJx4a65c_grow_92f84_5 : decode cJx4a65c_grow_92f84 5 = .ok (.istore_n 2, 1) := by decide +kernel
theorem dJx4a65c_grow_92f84_6 : decode cJx4a65c_grow_92f84 6 = .ok (.iload_n 2, 1) := by decide +kernel
theorem dJx4a65c_grow_92f84_7 : decode cJx4a65c_grow_92f84 7 = .ok (.ifCond .gt 13, 3) := by decide +kernel
theorem dJx4a65c_grow_92f84_10 : decode cJx4a65c_grow_92f84 10 = .ok (.aload_n 0, 1) := by decide +kernel
theorem dJx4a65c_grow_92f84_11 : decode cJx4a65c_grow_92f84 11 = .ok (.getfield 9, 3) := by decide +kernel
theorem dJx4a65c_grow_92f84_14 : decode cJx4a65c_grow_92f84 14 = .ok (.getstatic 39, 3) := by decide +kernel
theorem dJx4a65c_grow_92f84_17 : decode cJx4a65c_grow_92f84 17 = .ok (.if_acmp .eq 28, 3) := by decide +kernel
theorem dJx4a65c_grow_92f84_20 : decode cJx4a65c_grow_92f84 20 = .ok (.iload_n 2, 1) := by decide +kernel
theorem dJx4a65c_grow_92f84_21 : decode cJx4a65c_grow_92f84 21 = .ok (.iload_n 1, 1) := by decide +kernel
theorem dJx4a65c_grow_92f84_22 : decode cJx4a65c_grow_92f84 22 = .ok (.iload_n 2, 1) := by decide +kernel
theorem dJx4a65c_grow_92f84_23 : decode cJx4a65c_grow_92f84 23 = .ok (.isub, 1) := by decide +kernel
theorem dJx4a65c_grow_92f84_24 : decode cJx4a65c_grow_92f84 24 = .ok (.iload_n 2, 1) := by decide +kernel
theorem dJx4a65c_grow_92f84_25 : decode cJx4a65c_grow_92f84 25 = .ok (.iconst 1, 1) := by decide +kernel
theorem dJx4a65c_grow_92f84_26 : decode cJx4a65c_grow_92f84 26 = .ok (.ishr, 1) := by decide +kernel
theorem dJx4a65c_grow_92f84_27 : decode cJx4a65c_grow_92f84 27 = .ok (.invokestatic 73, 3) := by decide +kernel
theorem dJx4a65c_grow_92f84_30 : decode cJx4a65c_grow_92f84 30 = .ok (.istore_n 3, 1) := by decide +kernel
theorem dJx4a65c_grow_92f84_31 : decode cJx4a65c_grow_92f84 31 = .ok (.aload_n 0, 1) := by decide +kernel
theorem dJx4a65c_grow_92f84_32 : decode cJx4a65c_grow_92f84 32 = .ok (.aload_n 0, 1) := by decide +kernel
theorem dJx4a65c_grow_92f84_33 : decode cJx4a65c_grow_92f84 33 = .ok (.getfield 9, 3) := by decide +kernel
theorem dJx4a65c_grow_92f84_36 : decode cJx4a65c_grow_92f84 36 = .ok (.iload_n 3, 1) := by decide +kernel
theorem dJx4a65c_grow_92f84_37 : decode cJx4a65c_grow_92f84 37 = .ok (.invokestatic 66, 3) := by decide +kernel
theorem dJx4a65c_grow_92f84_40 : decode cJx4a65c_grow_92f84 40 = .ok (.dup_x1, 1) := by decide +kernel
theorem dJx4a65c_grow_92f84_41 : decode cJx4a65c_grow_92f84 41 = .ok (.putfield 9, 3) := by decide +kernel
theorem dJx4a65c_grow_92f84_44 : decode cJx4a65c_grow_92f84 44 = .ok (.areturn, 1) := by decide +kernel
theorem dJx4a65c_grow_92f84_45 : decode cJx4a65c_grow_92f84 45 = .ok (.aload_n 0, 1) := by decide +kernel
theorem dJx4a65c_grow_92f84_46 : decode cJx4a65c_grow_92f84 46 = .ok (.bipush 10, 2) := by decide +kernel
theorem dJx4a65c_grow_92f84_48 : decode cJx4a65c_grow_92f84 48 = .ok (.iload_n 1, 1) := by decide +kernel
theorem dJx4a65c_grow_92f84_49 : decode cJx4a65c_grow_92f84 49 = .ok (.invokestatic 79, 3) := by decide +kernel
theorem dJx4a65c_grow_92f84_52 : decode cJx4a65c_grow_92f84 52 = .ok (.anewarray 7, 3) := by decide +kernel
theorem dJx4a65c_grow_92f84_55 : decode cJx4a65c_grow_92f84 55 = .ok (.dup_x1, 1) := by decide +kernel
theorem dJx4a65c_grow_92f84_56 : decode cJx4a65c_grow_92f84 56 = .ok (.putfield 9, 3) := by decide +kernel
theorem dJx4a65c_grow_92f84_59 : decode cJx4a65c_grow_92f84 59 = .ok (.areturn, 1) := by decide +kernel
theorem dJx4a65c_grow_d5877_0 : decode cJx4a65c_grow_d5877 0 = .ok (.aload_n 0, 1) := by decide +kernel
theorem dJx4a65c_grow_d5877_1 : decode cJx4a65c_grow_d5877 1 = .ok (.aload_n 0, 1) := by decide +kernel
theorem dJx4a65c_grow_d5877_2 : decode cJx4a65c_grow_d5877 2 = .ok (.getfield 48, 3) := by decide +kernel
theorem dJx4a65c_grow_d5877_5 : decode cJx4a65c_grow_d5877 5 = .ok (.iconst 1, 1) := by decide +kernel
theorem dJx4a65c_grow_d5877_6 : decode cJx4a65c_grow_d5877 6 = .ok (.iadd, 1) := by decide +kernel
theorem dJx4a65c_grow_d5877_7 : decode cJx4a65c_grow_d5877 7 = .ok (.invokevirtual 69, 3) := by decide +kernel
theorem dJx4a65c_grow_d5877_10 : decode cJx4a65c_grow_d5877 10 = .ok (.areturn, 1) := by decide +kernel
theorem dJx4a65c_size_8abf5_0 : decode cJx4a65c_size_8abf5 0 = .ok (.aload_n 0, 1) := by decide +kernel
theorem dJx4a65c_size_8abf5_1 : decode cJx4a65c_size_8abf5 1 = .ok (.getfield 48, 3) := by decide +kernel
theorem dJx4a65c_size_8abf5_4 : decode cJx4a65c_size_8abf5 4 = .ok (.ireturn, 1) := by decide +kernel
theorem dJx4a65c_elementData_915e3_0 : decode cJx4a65c_elementData_915e3 0 = .ok (.aload_n 0, 1) := by decide +kernel
theorem dJx4a65c_elementData_915e3_1 : decode cJx4a65c_elementData_915e3 1 = .ok (.getfield 9, 3) := by decide +kernel
theorem dJx4a65c_elementData_915e3_4 : decode cJx4a65c_elementData_915e3 4 = .ok (.iload_n 1, 1) := by decide +kernel
theorem dJx4a65c_elementData_915e3_5 : decode cJx4a65c_elementData_915e3 5 = .ok (.aaload, 1) := by decide +kernel
theorem dJx4a65c_elementData_915e3_6 : decode cJx4a65c_elementData_915e3 6 = .ok (.areturn, 1) := by decide +kernel
theorem dJx4a65c_get_915e3_0 : decode cJx4a65c_get_915e3 0 = .ok (.iload_n 1, 1) := by decide +kernel
theorem dJx4a65c_get_915e3_1 : decode cJx4a65c_get_915e3 1 = .ok (.aload_n 0, 1) := by decide +kernel
theorem dJx4a65c_get_915e3_2 : decode cJx4a65c_get_915e3 2 = .ok (.getfield 48, 3) := by decide +kernel
theorem dJx4a65c_get_915e3_5 : decode cJx4a65c_get_915e3 5 = .ok (.invokestatic 118, 3) := by decide +kernel
theorem dJx4a65c_get_915e3_8 : decode cJx4a65c_get_915e3 8 = .ok (.pop, 1) := by decide +kernel
theorem dJx4a65c_get_915e3_9 : decode cJx4a65c_get_915e3 9 = .ok (.aload_n 0, 1) := by decide +kernel
theorem dJx4a65c_get_915e3_10 : decode cJx4a65c_get_915e3 10 = .ok (.iload_n 1, 1) := by decide +kernel
theorem dJx4a65c_get_915e3_11 : decode cJx4a65c_get_915e3 11 = .ok (.invokevirtual 123, 3) := by decide +kernel
theorem dJx4a65c_get_915e3_14 : decode cJx4a65c_get_915e3 14 = .ok (.areturn, 1) := by decide +kernel
theorem dJx4a65c_add_72be8_0 : decode cJx4a65c_add_72be8 0 = .ok (.iload_n 3, 1) := by decide +kernel
theorem dJx4a65c_add_72be8_1 : decode cJx4a65c_add_72be8 1 = .ok (.aload_n 2, 1) := by decide +kernel
theorem dJx4a65c_add_72be8_2 : decode cJx4a65c_add_72be8 2 = .ok (.arraylength, 1) := by decide +kernel
theorem dJx4a65c_add_72be8_3 : decode cJx4a65c_add_72be8 3 = .ok (.if_icmp .ne 8, 3) := by decide +kernel
theorem dJx4a65c_add_72be8_6 : decode cJx4a65c_add_72be8 6 = .ok (.aload_n 0, 1) := by decide +kernel
theorem dJx4a65c_add_72be8_7 : decode cJx4a65c_add_72be8 7 = .ok (.invokevirtual 129, 3) := by decide +kernel
theorem dJx4a65c_add_72be8_10 : decode cJx4a65c_add_72be8 10 = .ok (.astore_n 2, 1) := by decide +kernel
theorem dJx4a65c_add_72be8_11 : decode cJx4a65c_add_72be8 11 = .ok (.aload_n 2, 1) := by decide +kernel
theorem dJx4a65c_add_72be8_12 : decode cJx4a65c_add_72be8 12 = .ok (.iload_n 3, 1) := by decide +kernel
theorem dJx4a65c_add_72be8_13 : decode cJx4a65c_add_72be8 13 = .ok (.aload_n 1, 1) := by decide +kernel
theorem dJx4a65c_add_72be8_14 : decode cJx4a65c_add_72be8 14 = .ok (.aastore, 1) := by decide +kernel
theorem dJx4a65c_add_72be8_15 : decode cJx4a65c_add_72be8 15 = .ok (.aload_n 0, 1) := by decide +kernel
theorem dJx4a65c_add_72be8_16 : decode cJx4a65c_add_72be8 16 = .ok (.iload_n 3, 1) := by decide +kernel
theorem dJx4a65c_add_72be8_17 : decode cJx4a65c_add_72be8 17 = .ok (.iconst 1, 1) := by decide +kernel
theorem dJx4a65c_add_72be8_18 : decode cJx4a65c_add_72be8 18 = .ok (.iadd, 1) := by decide +kernel
theorem dJx4a65c_add_72be8_19 : decode cJx4a65c_add_72be8 19 = .ok (.putfield 48, 3) := by decide +kernel
theorem dJx4a65c_add_72be8_22 : decode cJx4a65c_add_72be8 22 = .ok (.return_, 1) := by decide +kernel
theorem dJx4a65c_add_9ea2d_0 : decode cJx4a65c_add_9ea2d 0 = .ok (.aload_n 0, 1) := by decide +kernel
theorem dJx4a65c_add_9ea2d_1 : decode cJx4a65c_add_9ea2d 1 = .ok (.dup, 1) := by decide +kernel
theorem dJx4a65c_add_9ea2d_2 : decode cJx4a65c_add_9ea2d 2 = .ok (.getfield 63, 3) := by decide +kernel
theorem dJx4a65c_add_9ea2d_5 : decode cJx4a65c_add_9ea2d 5 = .ok (.iconst 1, 1) := by decide +kernel
theorem dJx4a65c_add_9ea2d_6 : decode cJx4a65c_add_9ea2d 6 = .ok (.iadd, 1) := by decide +kernel
theorem dJx4a65c_add_9ea2d_7 : decode cJx4a65c_add_9ea2d 7 = .ok (.putfield 63, 3) := by decide +kernel
theorem dJx4a65c_add_9ea2d_10 : decode cJx4a65c_add_9ea2d 10 = .ok (.aload_n 0, 1) := by decide +kernel
theorem dJx4a65c_add_9ea2d_11 : decode cJx4a65c_add_9ea2d 11 = .ok (.aload_n 1, 1) := by decide +kernel
theorem dJx4a65c_add_9ea2d_12 : decode cJx4a65c_add_9ea2d 12 = .ok (.aload_n 0, 1) := by decide +kernel
theorem dJx4a65c_add_9ea2d_13 : decode cJx4a65c_add_9ea2d 13 = .ok (.getfield 9, 3) := by decide +kernel
theorem dJx4a65c_add_9ea2d_16 : decode cJx4a65c_add_9ea2d 16 = .ok (.aload_n 0, 1) := by decide +kernel
theorem dJx4a65c_add_9ea2d_17 : decode cJx4a65c_add_9ea2d 17 = .ok (.getfield 48, 3) := by decide +kernel
theorem dJx4a65c_add_9ea2d_20 : decode cJx4a65c_add_9ea2d 20 = .ok (.invokevirtual 131, 3) := by decide +kernel
theorem dJx4a65c_add_9ea2d_23 : decode cJx4a65c_add_9ea2d 23 = .ok (.iconst 1, 1) := by decide +kernel
theorem dJx4a65c_add_9ea2d_24 : decode cJx4a65c_add_9ea2d 24 = .ok (.ireturn, 1) := by decide +kernel
theorem dJ7_fill_d0a16_0 : decode cJ7_fill_d0a16 0 = .ok (.iconst 0, 1) := by decide +kernel
theorem dJ7_fill_d0a16_1 : decode cJ7_fill_d0a16 1 = .ok (.istore_n 3, 1) := by decide +kernel
theorem dJ7_fill_d0a16_2 : decode cJ7_fill_d0a16 2 = .ok (.aload_n 0, 1) := by decide +kernel
theorem dJ7_fill_d0a16_3 : decode cJ7_fill_d0a16 3 = .ok (.arraylength, 1) := by decide +kernel
theorem dJ7_fill_d0a16_4 : decode cJ7_fill_d0a16 4 = .ok (.istore 4, 2) := by decide +kernel
theorem dJ7_fill_d0a16_6 : decode cJ7_fill_d0a16 6 = .ok (.iload_n 3, 1) := by decide +kernel
theorem dJ7_fill_d0a16_7 : decode cJ7_fill_d0a16 7 = .ok (.iload 4, 2) := by decide +kernel
theorem dJ7_fill_d0a16_9 : decode cJ7_fill_d0a16 9 = .ok (.if_icmp .ge 13, 3) := by decide +kernel
theorem dJ7_fill_d0a16_12 : decode cJ7_fill_d0a16 12 = .ok (.aload_n 0, 1) := by decide +kernel
theorem dJ7_fill_d0a16_13 : decode cJ7_fill_d0a16 13 = .ok (.iload_n 3, 1) := by decide +kernel
theorem dJ7_fill_d0a16_14 : decode cJ7_fill_d0a16 14 = .ok (.lload_n 1, 1) := by decide +kernel
theorem dJ7_fill_d0a16_15 : decode cJ7_fill_d0a16 15 = .ok (.lastore, 1) := by decide +kernel
theorem dJ7_fill_d0a16_16 : decode cJ7_fill_d0a16 16 = .ok (.iinc 3 1, 3) := by decide +kernel
theorem dJ7_fill_d0a16_19 : decode cJ7_fill_d0a16 19 = .ok (.goto (-13), 3) := by decide +kernel
theorem dJ7_fill_d0a16_22 : decode cJ7_fill_d0a16 22 = .ok (.return_, 1) := by decide +kernel
theorem dJ7_fill_53178_0 : decode cJ7_fill_53178 0 = .ok (.iconst 0, 1) := by decide +kernel
theorem dJ7_fill_53178_1 : decode cJ7_fill_53178 1 = .ok (.istore_n 2, 1) := by decide +kernel
theorem dJ7_fill_53178_2 : decode cJ7_fill_53178 2 = .ok (.aload_n 0, 1) := by decide +kernel
theorem dJ7_fill_53178_3 : decode cJ7_fill_53178 3 = .ok (.arraylength, 1) := by decide +kernel
theorem dJ7_fill_53178_4 : decode cJ7_fill_53178 4 = .ok (.istore_n 3, 1) := by decide +kernel
theorem dJ7_fill_53178_5 : decode cJ7_fill_53178 5 = .ok (.iload_n 2, 1) := by decide +kernel
theorem dJ7_fill_53178_6 : decode cJ7_fill_53178 6 = .ok (.iload_n 3, 1) := by decide +kernel
theorem dJ7_fill_53178_7 : decode cJ7_fill_53178 7 = .ok (.if_icmp .ge 13, 3) := by decide +kernel
theorem dJ7_fill_53178_10 : decode cJ7_fill_53178 10 = .ok (.aload_n 0, 1) := by decide +kernel
theorem dJ7_fill_53178_11 : decode cJ7_fill_53178 11 = .ok (.iload_n 2, 1) := by decide +kernel
theorem dJ7_fill_53178_12 : decode cJ7_fill_53178 12 = .ok (.iload_n 1, 1) := by decide +kernel
theorem dJ7_fill_53178_13 : decode cJ7_fill_53178 13 = .ok (.iastore, 1) := by decide +kernel
theorem dJ7_fill_53178_14 : decode cJ7_fill_53178 14 = .ok (.iinc 2 1, 3) := by decide +kernel
theorem dJ7_fill_53178_17 : decode cJ7_fill_53178 17 = .ok (.goto (-12), 3) := by decide +kernel
theorem dJ7_fill_53178_20 : decode cJ7_fill_53178 20 = .ok (.return_, 1) := by decide +kernel
theorem dJ7_copyOf_1904c_0 : decode cJ7_copyOf_1904c 0 = .ok (.aload_n 0, 1) := by decide +kernel
theorem dJ7_copyOf_1904c_1 : decode cJ7_copyOf_1904c 1 = .ok (.iload_n 1, 1) := by decide +kernel
theorem dJ7_copyOf_1904c_2 : decode cJ7_copyOf_1904c 2 = .ok (.aload_n 0, 1) := by decide +kernel
theorem dJ7_copyOf_1904c_3 : decode cJ7_copyOf_1904c 3 = .ok (.invokevirtual 86, 3) := by decide +kernel
theorem dJ7_copyOf_1904c_6 : decode cJ7_copyOf_1904c 6 = .ok (.invokestatic 300, 3) := by decide +kernel
theorem dJ7_copyOf_1904c_9 : decode cJ7_copyOf_1904c 9 = .ok (.areturn, 1) := by decide +kernel
theorem dJ7_copyOf_6403c_0 : decode cJ7_copyOf_6403c 0 = .ok (.aload_n 2, 1) := by decide +kernel
theorem dJ7_copyOf_6403c_1 : decode cJ7_copyOf_6403c 1 = .ok (.ldc 110, 2) := by decide +kernel
theorem dJ7_copyOf_6403c_3 : decode cJ7_copyOf_6403c 3 = .ok (.if_acmp .ne 10, 3) := by decide +kernel
theorem dJ7_copyOf_6403c_6 : decode cJ7_copyOf_6403c 6 = .ok (.iload_n 1, 1) := by decide +kernel
theorem dJ7_copyOf_6403c_7 : decode cJ7_copyOf_6403c 7 = .ok (.anewarray 2, 3) := by decide +kernel
theorem dJ7_copyOf_6403c_10 : decode cJ7_copyOf_6403c 10 = .ok (.goto 14, 3) := by decide +kernel
theorem dJ7_copyOf_6403c_13 : decode cJ7_copyOf_6403c 13 = .ok (.aload_n 2, 1) := by decide +kernel
theorem dJ7_copyOf_6403c_14 : decode cJ7_copyOf_6403c 14 = .ok (.invokevirtual 90, 3) := by decide +kernel
theorem dJ7_copyOf_6403c_17 : decode cJ7_copyOf_6403c 17 = .ok (.iload_n 1, 1) := by decide +kernel
theorem dJ7_copyOf_6403c_18 : decode cJ7_copyOf_6403c 18 = .ok (.invokestatic 95, 3) := by decide +kernel
theorem dJ7_copyOf_6403c_21 : decode cJ7_copyOf_6403c 21 = .ok (.checkcast 110, 3) := by decide +kernel
theorem dJ7_copyOf_6403c_24 : decode cJ7_copyOf_6403c 24 = .ok (.astore_n 3, 1) := by decide +kernel
theorem dJ7_copyOf_6403c_25 : decode cJ7_copyOf_6403c 25 = .ok (.aload_n 0, 1) := by decide +kernel
theorem dJ7_copyOf_6403c_26 : decode cJ7_copyOf_6403c 26 = .ok (.iconst 0, 1) := by decide +kernel
theorem dJ7_copyOf_6403c_27 : decode cJ7_copyOf_6403c 27 = .ok (.aload_n 3, 1) := by decide +kernel
theorem dJ7_copyOf_6403c_28 : decode cJ7_copyOf_6403c 28 = .ok (.iconst 0, 1) := by decide +kernel
theorem dJ7_copyOf_6403c_29 : decode cJ7_copyOf_6403c 29 = .ok (.aload_n 0, 1) := by decide +kernel
theorem dJ7_copyOf_6403c_30 : decode cJ7_copyOf_6403c 30 = .ok (.arraylength, 1) := by decide +kernel
theorem dJ7_copyOf_6403c_31 : decode cJ7_copyOf_6403c 31 = .ok (.iload_n 1, 1) := by decide +kernel
theorem dJ7_copyOf_6403c_32 : decode cJ7_copyOf_6403c 32 = .ok (.invokestatic 304, 3) := by decide +kernel
theorem dJ7_copyOf_6403c_35 : decode cJ7_copyOf_6403c 35 = .ok (.invokestatic 150, 3) := by decide +kernel
theorem dJ7_copyOf_6403c_38 : decode cJ7_copyOf_6403c 38 = .ok (.aload_n 3, 1) := by decide +kernel
theorem dJ7_copyOf_6403c_39 : decode cJ7_copyOf_6403c 39 = .ok (.areturn, 1) := by decide +kernel
theorem dJ15_checkIndex_7cf53_0 : decode cJ15_checkIndex_7cf53 0 = .ok (.iload_n 0, 1) := by decide +kernel
theorem dJ15_checkIndex_7cf53_1 : decode cJ15_checkIndex_7cf53 1 = .ok (.iload_n 1, 1) := by decide +kernel
theorem dJ15_checkIndex_7cf53_2 : decode cJ15_checkIndex_7cf53 2 = .ok (.aconst_null, 1) := by decide +kernel
theorem dJ15_checkIndex_7cf53_3 : decode cJ15_checkIndex_7cf53 3 = .ok (.invokestatic 105, 3) := by decide +kernel
theorem dJ15_checkIndex_7cf53_6 : decode cJ15_checkIndex_7cf53 6 = .ok (.ireturn, 1) := by decide +kernel
theorem dJ8_newLength_cabcc_0 : decode cJ8_newLength_cabcc 0 = .ok (.iload_n 0, 1) := by decide +kernel
theorem dJ8_newLength_cabcc_1 : decode cJ8_newLength_cabcc 1 = .ok (.iload_n 1, 1) := by decide +kernel
theorem dJ8_newLength_cabcc_2 : decode cJ8_newLength_cabcc 2 = .ok (.iload_n 2, 1) := by decide +kernel
theorem dJ8_newLength_cabcc_3 : decode cJ8_newLength_cabcc 3 = .ok (.invokestatic 194, 3) := by decide +kernel
theorem dJ8_newLength_cabcc_6 : decode cJ8_newLength_cabcc 6 = .ok (.iadd, 1) := by decide +kernel
theorem dJ8_newLength_cabcc_7 : decode cJ8_newLength_cabcc 7 = .ok (.istore_n 3, 1) := by decide +kernel
theorem dJ8_newLength_cabcc_8 : decode cJ8_newLength_cabcc 8 = .ok (.iconst 0, 1) := by decide +kernel
theorem dJ8_newLength_cabcc_9 : decode cJ8_newLength_cabcc 9 = .ok (.iload_n 3, 1) := by decide +kernel
theorem dJ8_newLength_cabcc_10 : decode cJ8_newLength_cabcc 10 = .ok (.if_icmp .ge 11, 3) := by decide +kernel
theorem dJ8_newLength_cabcc_13 : decode cJ8_newLength_cabcc 13 = .ok (.iload_n 3, 1) := by decide +kernel
theorem dJ8_newLength_cabcc_14 : decode cJ8_newLength_cabcc 14 = .ok (.ldc 200, 2) := by decide +kernel
theorem dJ8_newLength_cabcc_16 : decode cJ8_newLength_cabcc 16 = .ok (.if_icmp .gt 5, 3) := by decide +kernel
theorem dJ8_newLength_cabcc_19 : decode cJ8_newLength_cabcc 19 = .ok (.iload_n 3, 1) := by decide +kernel
theorem dJ8_newLength_cabcc_20 : decode cJ8_newLength_cabcc 20 = .ok (.ireturn, 1) := by decide +kernel
theorem dJ8_newLength_cabcc_21 : decode cJ8_newLength_cabcc 21 = .ok (.iload_n 0, 1) := by decide +kernel
theorem dJ8_newLength_cabcc_22 : decode cJ8_newLength_cabcc 22 = .ok (.iload_n 1, 1) := by decide +kernel
theorem dJ8_newLength_cabcc_23 : decode cJ8_newLength_cabcc 23 = .ok (.invokestatic 201, 3) := by decide +kernel
theorem dJ8_newLength_cabcc_26 : decode cJ8_newLength_cabcc 26 = .ok (.ireturn, 1) := by decide +kernel
theorem dJ8_hugeLength_7cf53_0 : decode cJ8_hugeLength_7cf53 0 = .ok (.iload_n 0, 1) := by decide +kernel
theorem dJ8_hugeLength_7cf53_1 : decode cJ8_hugeLength_7cf53 1 = .ok (.iload_n 1, 1) := by decide +kernel
theorem dJ8_hugeLength_7cf53_2 : decode cJ8_hugeLength_7cf53 2 = .ok (.iadd, 1) := by decide +kernel
theorem dJ8_hugeLength_7cf53_3 : decode cJ8_hugeLength_7cf53 3 = .ok (.istore_n 2, 1) := by decide +kernel
theorem dJ8_hugeLength_7cf53_4 : decode cJ8_hugeLength_7cf53 4 = .ok (.iload_n 2, 1) := by decide +kernel
theorem dJ8_hugeLength_7cf53_5 : decode cJ8_hugeLength_7cf53 5 = .ok (.ifCond .ge 44, 3) := by decide +kernel
theorem dJ8_hugeLength_7cf53_8 : decode cJ8_hugeLength_7cf53 8 = .ok (.new 204, 3) := by decide +kernel
theorem dJ8_hugeLength_7cf53_11 : decode cJ8_hugeLength_7cf53 11 = .ok (.dup, 1) := by decide +kernel
theorem dJ8_hugeLength_7cf53_12 : decode cJ8_hugeLength_7cf53 12 = .ok (.new 89, 3) := by decide +kernel
theorem dJ8_hugeLength_7cf53_15 : decode cJ8_hugeLength_7cf53 15 = .ok (.dup, 1) := by decide +kernel
theorem dJ8_hugeLength_7cf53_16 : decode cJ8_hugeLength_7cf53 16 = .ok (.invokespecial 91, 3) := by decide +kernel
theorem dJ8_hugeLength_7cf53_19 : decode cJ8_hugeLength_7cf53 19 = .ok (.ldc 206, 2) := by decide +kernel
theorem dJ8_hugeLength_7cf53_21 : decode cJ8_hugeLength_7cf53 21 = .ok (.invokevirtual 94, 3) := by decide +kernel
theorem dJ8_hugeLength_7cf53_24 : decode cJ8_hugeLength_7cf53 24 = .ok (.iload_n 0, 1) := by decide +kernel
theorem dJ8_hugeLength_7cf53_25 : decode cJ8_hugeLength_7cf53 25 = .ok (.invokevirtual 98, 3) := by decide +kernel
theorem dJ8_hugeLength_7cf53_28 : decode cJ8_hugeLength_7cf53 28 = .ok (.ldc 208, 2) := by decide +kernel
theorem dJ8_hugeLength_7cf53_30 : decode cJ8_hugeLength_7cf53 30 = .ok (.invokevirtual 94, 3) := by decide +kernel
theorem dJ8_hugeLength_7cf53_33 : decode cJ8_hugeLength_7cf53 33 = .ok (.iload_n 1, 1) := by decide +kernel
theorem dJ8_hugeLength_7cf53_34 : decode cJ8_hugeLength_7cf53 34 = .ok (.invokevirtual 98, 3) := by decide +kernel
theorem dJ8_hugeLength_7cf53_37 : decode cJ8_hugeLength_7cf53 37 = .ok (.ldc 210, 2) := by decide +kernel
theorem dJ8_hugeLength_7cf53_39 : decode cJ8_hugeLength_7cf53 39 = .ok (.invokevirtual 94, 3) := by decide +kernel
theorem dJ8_hugeLength_7cf53_42 : decode cJ8_hugeLength_7cf53 42 = .ok (.invokevirtual 101, 3) := by decide +kernel
theorem dJ8_hugeLength_7cf53_45 : decode cJ8_hugeLength_7cf53 45 = .ok (.invokespecial 212, 3) := by decide +kernel
theorem dJ8_hugeLength_7cf53_48 : decode cJ8_hugeLength_7cf53 48 = .ok (.athrow, 1) := by decide +kernel
theorem dJ8_hugeLength_7cf53_49 : decode cJ8_hugeLength_7cf53 49 = .ok (.iload_n 2, 1) := by decide +kernel
theorem dJ8_hugeLength_7cf53_50 : decode cJ8_hugeLength_7cf53 50 = .ok (.ldc 200, 2) := by decide +kernel
theorem dJ8_hugeLength_7cf53_52 : decode cJ8_hugeLength_7cf53 52 = .ok (.if_icmp .gt 6, 3) := by decide +kernel
theorem dJ8_hugeLength_7cf53_55 : decode cJ8_hugeLength_7cf53 55 = .ok (.ldc 200, 2) := by decide +kernel
theorem dJ8_hugeLength_7cf53_57 : decode cJ8_hugeLength_7cf53 57 = .ok (.ireturn, 1) := by decide +kernel
theorem dJ8_hugeLength_7cf53_58 : decode cJ8_hugeLength_7cf53 58 = .ok (.iload_n 2, 1) := by decide +kernel
theorem dJ8_hugeLength_7cf53_59 : decode cJ8_hugeLength_7cf53 59 = .ok (.ireturn, 1) := by decide +kernel
theorem dJ3_checkIndex_8e157_0 : decode cJ3_checkIndex_8e157 0 = .ok (.iload_n 0, 1) := by decide +kernel
theorem dJ3_checkIndex_8e157_1 : decode cJ3_checkIndex_8e157 1 = .ok (.ifCond .lt 8, 3) := by decide +kernel
theorem dJ3_checkIndex_8e157_4 : decode cJ3_checkIndex_8e157 4 = .ok (.iload_n 0, 1) := by decide +kernel
theorem dJ3_checkIndex_8e157_5 : decode cJ3_checkIndex_8e157 5 = .ok (.iload_n 1, 1) := by decide +kernel
theorem dJ3_checkIndex_8e157_6 : decode cJ3_checkIndex_8e157 6 = .ok (.if_icmp .lt 10, 3) := by decide +kernel
theorem dJ3_checkIndex_8e157_9 : decode cJ3_checkIndex_8e157 9 = .ok (.aload_n 2, 1) := by decide +kernel
theorem dJ3_checkIndex_8e157_10 : decode cJ3_checkIndex_8e157 10 = .ok (.iload_n 0, 1) := by decide +kernel
theorem dJ3_checkIndex_8e157_11 : decode cJ3_checkIndex_8e157 11 = .ok (.iload_n 1, 1) := by decide +kernel
theorem dJ3_checkIndex_8e157_12 : decode cJ3_checkIndex_8e157 12 = .ok (.invokestatic 95, 3) := by decide +kernel
theorem dJ3_checkIndex_8e157_15 : decode cJ3_checkIndex_8e157 15 = .ok (.athrow, 1) := by decide +kernel
theorem dJ3_checkIndex_8e157_16 : decode cJ3_checkIndex_8e157 16 = .ok (.iload_n 0, 1) := by decide +kernel
theorem dJ3_checkIndex_8e157_17 : decode cJ3_checkIndex_8e157 17 = .ok (.ireturn, 1) := by decide +kernel
theorem dJ3_checkFromToIndex_8c36e_0 : decode cJ3_checkFromToIndex_8c36e 0 = .ok (.iload_n 0, 1) := by decide +kernel
theorem dJ3_checkFromToIndex_8c36e_1 : decode cJ3_checkFromToIndex_8c36e 1 = .ok (.ifCond .lt 13, 3) := by decide +kernel
theorem dJ3_checkFromToIndex_8c36e_4 : decode cJ3_checkFromToIndex_8c36e 4 = .ok (.iload_n 0, 1) := by decide +kernel
theorem dJ3_checkFromToIndex_8c36e_5 : decode cJ3_checkFromToIndex_8c36e 5 = .ok (.iload_n 1, 1) := by decide +kernel
theorem dJ3_checkFromToIndex_8c36e_6 : decode cJ3_checkFromToIndex_8c36e 6 = .ok (.if_icmp .gt 8, 3) := by decide +kernel
theorem dJ3_checkFromToIndex_8c36e_9 : decode cJ3_checkFromToIndex_8c36e 9 = .ok (.iload_n 1, 1) := by decide +kernel
theorem dJ3_checkFromToIndex_8c36e_10 : decode cJ3_checkFromToIndex_8c36e 10 = .ok (.iload_n 2, 1) := by decide +kernel
theorem dJ3_checkFromToIndex_8c36e_11 : decode cJ3_checkFromToIndex_8c36e 11 = .ok (.if_icmp .le 11, 3) := by decide +kernel
theorem dJ3_checkFromToIndex_8c36e_14 : decode cJ3_checkFromToIndex_8c36e 14 = .ok (.aload_n 3, 1) := by decide +kernel
theorem dJ3_checkFromToIndex_8c36e_15 : decode cJ3_checkFromToIndex_8c36e 15 = .ok (.iload_n 0, 1) := by decide +kernel
theorem dJ3_checkFromToIndex_8c36e_16 : decode cJ3_checkFromToIndex_8c36e 16 = .ok (.iload_n 1, 1) := by decide +kernel
theorem dJ3_checkFromToIndex_8c36e_17 : decode cJ3_checkFromToIndex_8c36e 17 = .ok (.iload_n 2, 1) := by decide +kernel
theorem dJ3_checkFromToIndex_8c36e_18 : decode cJ3_checkFromToIndex_8c36e 18 = .ok (.invokestatic 99, 3) := by decide +kernel
theorem dJ3_checkFromToIndex_8c36e_21 : decode cJ3_checkFromToIndex_8c36e 21 = .ok (.athrow, 1) := by decide +kernel
theorem dJ3_checkFromToIndex_8c36e_22 : decode cJ3_checkFromToIndex_8c36e 22 = .ok (.iload_n 0, 1) := by decide +kernel
theorem dJ3_checkFromToIndex_8c36e_23 : decode cJ3_checkFromToIndex_8c36e 23 = .ok (.ireturn, 1) := by decide +kernel
theorem dL_member_0 : decode cL_member 0 = .ok (.aload_n 3, 1) := by decide +kernel
theorem dL_member_1 : decode cL_member 1 = .ok (.iconst 0, 1) := by decide +kernel
theorem dL_member_2 : decode cL_member 2 = .ok (.aload_n 0, 1) := by decide +kernel
theorem dL_member_3 : decode cL_member 3 = .ok (.iload_n 1, 1) := by decide +kernel
theorem dL_member_4 : decode cL_member 4 = .ok (.iload_n 2, 1) := by decide +kernel
theorem dL_member_5 : decode cL_member 5 = .ok (.invokevirtual 7, 3) := by decide +kernel
theorem dL_member_8 : decode cL_member 8 = .ok (.lastore, 1) := by decide +kernel
theorem dL_member_9 : decode cL_member 9 = .ok (.goto 7, 3) := by decide +kernel
theorem dL_member_12 : decode cL_member 12 = .ok (.astore 4, 2) := by decide +kernel
theorem dL_member_14 : decode cL_member 14 = .ok (.iconst 1, 1) := by decide +kernel
theorem dL_member_15 : decode cL_member 15 = .ok (.ireturn, 1) := by decide +kernel
theorem dL_member_16 : decode cL_member 16 = .ok (.iconst 0, 1) := by decide +kernel
theorem dL_member_17 : decode cL_member 17 = .ok (.ireturn, 1) := by decide +kernel
theorem dL_entry_0 : decode cL_entry 0 = .ok (.aload_n 3, 1) := by decide +kernel
theorem dL_entry_1 : decode cL_entry 1 = .ok (.iconst 0, 1) := by decide +kernel
theorem dL_entry_2 : decode cL_entry 2 = .ok (.aload_n 0, 1) := by decide +kernel
theorem dL_entry_3 : decode cL_entry 3 = .ok (.iload_n 1, 1) := by decide +kernel
theorem dL_entry_4 : decode cL_entry 4 = .ok (.iload_n 2, 1) := by decide +kernel
theorem dL_entry_5 : decode cL_entry 5 = .ok (.invokevirtual 15, 3) := by decide +kernel
theorem dL_entry_8 : decode cL_entry 8 = .ok (.lastore, 1) := by decide +kernel
theorem dL_entry_9 : decode cL_entry 9 = .ok (.goto 7, 3) := by decide +kernel
theorem dL_entry_12 : decode cL_entry 12 = .ok (.astore 4, 2) := by decide +kernel
theorem dL_entry_14 : decode cL_entry 14 = .ok (.iconst 1, 1) := by decide +kernel
theorem dL_entry_15 : decode cL_entry 15 = .ok (.ireturn, 1) := by decide +kernel
theorem dL_entry_16 : decode cL_entry 16 = .ok (.iconst 0, 1) := by decide +kernel
theorem dL_entry_17 : decode cL_entry 17 = .ok (.ireturn, 1) := by decide +kernel
theorem dL_balance_0 : decode cL_balance 0 = .ok (.aload 4, 2) := by decide +kernel
theorem dL_balance_2 : decode cL_balance 2 = .ok (.iconst 0, 1) := by decide +kernel
theorem dL_balance_3 : decode cL_balance 3 = .ok (.aload_n 0, 1) := by decide +kernel
theorem dL_balance_4 : decode cL_balance 4 = .ok (.iload_n 1, 1) := by decide +kernel
theorem dL_balance_5 : decode cL_balance 5 = .ok (.iload_n 2, 1) := by decide +kernel
theorem dL_balance_6 : decode cL_balance 6 = .ok (.iload_n 3, 1) := by decide +kernel
theorem dL_balance_7 : decode cL_balance 7 = .ok (.invokevirtual 18, 3) := by decide +kernel
theorem dL_balance_10 : decode cL_balance 10 = .ok (.lastore, 1) := by decide +kernel
theorem dL_balance_11 : decode cL_balance 11 = .ok (.goto 7, 3) := by decide +kernel
theorem dL_balance_14 : decode cL_balance 14 = .ok (.astore 5, 2) := by decide +kernel
theorem dL_balance_16 : decode cL_balance 16 = .ok (.iconst 1, 1) := by decide +kernel
theorem dL_balance_17 : decode cL_balance 17 = .ok (.ireturn, 1) := by decide +kernel
theorem dL_balance_18 : decode cL_balance 18 = .ok (.iconst 0, 1) := by decide +kernel
theorem dL_balance_19 : decode cL_balance 19 = .ok (.ireturn, 1) := by decide +kernel
theorem dL_law_0 : decode cL_law 0 = .ok (.new 8, 3) := by decide +kernel
theorem dL_law_3 : decode cL_law 3 = .ok (.dup, 1) := by decide +kernel
theorem dL_law_4 : decode cL_law 4 = .ok (.invokespecial 22, 3) := by decide +kernel
theorem dL_law_7 : decode cL_law 7 = .ok (.astore_n 1, 1) := by decide +kernel
theorem dL_law_8 : decode cL_law 8 = .ok (.new 23, 3) := by decide +kernel
theorem dL_law_11 : decode cL_law 11 = .ok (.dup, 1) := by decide +kernel
theorem dL_law_12 : decode cL_law 12 = .ok (.invokespecial 25, 3) := by decide +kernel
theorem dL_law_15 : decode cL_law 15 = .ok (.astore_n 2, 1) := by decide +kernel
theorem dL_law_16 : decode cL_law 16 = .ok (.iconst 1, 1) := by decide +kernel
theorem dL_law_17 : decode cL_law 17 = .ok (.newarray .long, 2) := by decide +kernel
theorem dL_law_19 : decode cL_law 19 = .ok (.astore_n 3, 1) := by decide +kernel
theorem dL_law_20 : decode cL_law 20 = .ok (.iconst 0, 1) := by decide +kernel
theorem dL_law_21 : decode cL_law 21 = .ok (.istore 4, 2) := by decide +kernel
theorem dL_law_23 : decode cL_law 23 = .ok (.iload 4, 2) := by decide +kernel
theorem dL_law_25 : decode cL_law 25 = .ok (.aload_n 0, 1) := by decide +kernel
theorem dL_law_26 : decode cL_law 26 = .ok (.arraylength, 1) := by decide +kernel
theorem dL_law_27 : decode cL_law 27 = .ok (.bipush 6, 2) := by decide +kernel
theorem dL_law_29 : decode cL_law 29 = .ok (.isub, 1) := by decide +kernel
theorem dL_law_30 : decode cL_law 30 = .ok (.if_icmp .gt 1224, 3) := by decide +kernel
theorem dL_law_33 : decode cL_law 33 = .ok (.aload_n 0, 1) := by decide +kernel
theorem dL_law_34 : decode cL_law 34 = .ok (.iload 4, 2) := by decide +kernel
theorem dL_law_36 : decode cL_law 36 = .ok (.iaload, 1) := by decide +kernel
theorem dL_law_37 : decode cL_law 37 = .ok (.bipush 31, 2) := by decide +kernel
theorem dL_law_39 : decode cL_law 39 = .ok (.iand, 1) := by decide +kernel
theorem dL_law_40 : decode cL_law 40 = .ok (.tableswitch 1208 0 26 #[124, 197, 222, 235, 260, 297, 334, 371, 408, 446, 472, 539, 576, 613, 626, 675, 712, 737, 804, 829, 908, 945, 995, 1056, 1105, 1170, 1195], 124) := by decide +kernel
theorem dL_law_164 : decode cL_law 164 = .ok (.aload_n 1, 1) := by decide +kernel
theorem dL_law_165 : decode cL_law 165 = .ok (.aload_n 0, 1) := by decide +kernel
theorem dL_law_166 : decode cL_law 166 = .ok (.iload 4, 2) := by decide +kernel
theorem dL_law_168 : decode cL_law 168 = .ok (.iconst 1, 1) := by decide +kernel
theorem dL_law_169 : decode cL_law 169 = .ok (.iadd, 1) := by decide +kernel
theorem dL_law_170 : decode cL_law 170 = .ok (.iaload, 1) := by decide +kernel
theorem dL_law_171 : decode cL_law 171 = .ok (.aload_n 0, 1) := by decide +kernel
theorem dL_law_172 : decode cL_law 172 = .ok (.iload 4, 2) := by decide +kernel
theorem dL_law_174 : decode cL_law 174 = .ok (.iconst 2, 1) := by decide +kernel
theorem dL_law_175 : decode cL_law 175 = .ok (.iadd, 1) := by decide +kernel
theorem dL_law_176 : decode cL_law 176 = .ok (.iaload, 1) := by decide +kernel
theorem dL_law_177 : decode cL_law 177 = .ok (.aload_n 0, 1) := by decide +kernel
theorem dL_law_178 : decode cL_law 178 = .ok (.iload 4, 2) := by decide +kernel
theorem dL_law_180 : decode cL_law 180 = .ok (.iconst 3, 1) := by decide +kernel
theorem dL_law_181 : decode cL_law 181 = .ok (.iadd, 1) := by decide +kernel
theorem dL_law_182 : decode cL_law 182 = .ok (.iaload, 1) := by decide +kernel
theorem dL_law_183 : decode cL_law 183 = .ok (.aload_n 0, 1) := by decide +kernel
theorem dL_law_184 : decode cL_law 184 = .ok (.iload 4, 2) := by decide +kernel
theorem dL_law_186 : decode cL_law 186 = .ok (.iconst 4, 1) := by decide +kernel
theorem dL_law_187 : decode cL_law 187 = .ok (.iadd, 1) := by decide +kernel
theorem dL_law_188 : decode cL_law 188 = .ok (.iaload, 1) := by decide +kernel
theorem dL_law_189 : decode cL_law 189 = .ok (.aload_n 0, 1) := by decide +kernel
theorem dL_law_190 : decode cL_law 190 = .ok (.iload 4, 2) := by decide +kernel
theorem dL_law_192 : decode cL_law 192 = .ok (.iconst 5, 1) := by decide +kernel
theorem dL_law_193 : decode cL_law 193 = .ok (.iadd, 1) := by decide +kernel
theorem dL_law_194 : decode cL_law 194 = .ok (.iaload, 1) := by decide +kernel
theorem dL_law_195 : decode cL_law 195 = .ok (.invokevirtual 26, 3) := by decide +kernel
theorem dL_law_198 : decode cL_law 198 = .ok (.aload_n 2, 1) := by decide +kernel
theorem dL_law_199 : decode cL_law 199 = .ok (.aload_n 0, 1) := by decide +kernel
theorem dL_law_200 : decode cL_law 200 = .ok (.iload 4, 2) := by decide +kernel
theorem dL_law_202 : decode cL_law 202 = .ok (.iconst 1, 1) := by decide +kernel
theorem dL_law_203 : decode cL_law 203 = .ok (.iadd, 1) := by decide +kernel
theorem dL_law_204 : decode cL_law 204 = .ok (.iaload, 1) := by decide +kernel
theorem dL_law_205 : decode cL_law 205 = .ok (.aload_n 0, 1) := by decide +kernel
theorem dL_law_206 : decode cL_law 206 = .ok (.iload 4, 2) := by decide +kernel
theorem dL_law_208 : decode cL_law 208 = .ok (.iconst 2, 1) := by decide +kernel
theorem dL_law_209 : decode cL_law 209 = .ok (.iadd, 1) := by decide +kernel
theorem dL_law_210 : decode cL_law 210 = .ok (.iaload, 1) := by decide +kernel
theorem dL_law_211 : decode cL_law 211 = .ok (.aload_n 0, 1) := by decide +kernel
theorem dL_law_212 : decode cL_law 212 = .ok (.iload 4, 2) := by decide +kernel
theorem dL_law_214 : decode cL_law 214 = .ok (.iconst 3, 1) := by decide +kernel
theorem dL_law_215 : decode cL_law 215 = .ok (.iadd, 1) := by decide +kernel
theorem dL_law_216 : decode cL_law 216 = .ok (.iaload, 1) := by decide +kernel
theorem dL_law_217 : decode cL_law 217 = .ok (.aload_n 0, 1) := by decide +kernel
theorem dL_law_218 : decode cL_law 218 = .ok (.iload 4, 2) := by decide +kernel
theorem dL_law_220 : decode cL_law 220 = .ok (.iconst 4, 1) := by decide +kernel
theorem dL_law_221 : decode cL_law 221 = .ok (.iadd, 1) := by decide +kernel
theorem dL_law_222 : decode cL_law 222 = .ok (.iaload, 1) := by decide +kernel
theorem dL_law_223 : decode cL_law 223 = .ok (.aload_n 0, 1) := by decide +kernel
theorem dL_law_224 : decode cL_law 224 = .ok (.iload 4, 2) := by decide +kernel
theorem dL_law_226 : decode cL_law 226 = .ok (.iconst 5, 1) := by decide +kernel
theorem dL_law_227 : decode cL_law 227 = .ok (.iadd, 1) := by decide +kernel
theorem dL_law_228 : decode cL_law 228 = .ok (.iaload, 1) := by decide +kernel
theorem dL_law_229 : decode cL_law 229 = .ok (.invokevirtual 30, 3) := by decide +kernel
theorem dL_law_232 : decode cL_law 232 = .ok (.if_icmp .eq 1016, 3) := by decide +kernel
theorem dL_law_235 : decode cL_law 235 = .ok (.iconst 0, 1) := by decide +kernel
theorem dL_law_236 : decode cL_law 236 = .ok (.ireturn, 1) := by decide +kernel
theorem dL_law_237 : decode cL_law 237 = .ok (.aload_n 1, 1) := by decide +kernel
theorem dL_law_238 : decode cL_law 238 = .ok (.aload_n 0, 1) := by decide +kernel
theorem dL_law_239 : decode cL_law 239 = .ok (.iload 4, 2) := by decide +kernel
theorem dL_law_241 : decode cL_law 241 = .ok (.iconst 1, 1) := by decide +kernel
theorem dL_law_242 : decode cL_law 242 = .ok (.iadd, 1) := by decide +kernel
theorem dL_law_243 : decode cL_law 243 = .ok (.iaload, 1) := by decide +kernel
theorem dL_law_244 : decode cL_law 244 = .ok (.invokevirtual 31, 3) := by decide +kernel
theorem dL_law_247 : decode cL_law 247 = .ok (.aload_n 2, 1) := by decide +kernel
theorem dL_law_248 : decode cL_law 248 = .ok (.aload_n 0, 1) := by decide +kernel
theorem dL_law_249 : decode cL_law 249 = .ok (.iload 4, 2) := by decide +kernel
theorem dL_law_251 : decode cL_law 251 = .ok (.iconst 1, 1) := by decide +kernel
theorem dL_law_252 : decode cL_law 252 = .ok (.iadd, 1) := by decide +kernel
theorem dL_law_253 : decode cL_law 253 = .ok (.iaload, 1) := by decide +kernel
theorem dL_law_254 : decode cL_law 254 = .ok (.invokevirtual 35, 3) := by decide +kernel
theorem dL_law_257 : decode cL_law 257 = .ok (.if_icmp .eq 991, 3) := by decide +kernel
theorem dL_law_260 : decode cL_law 260 = .ok (.iconst 0, 1) := by decide +kernel
theorem dL_law_261 : decode cL_law 261 = .ok (.ireturn, 1) := by decide +kernel
theorem dL_law_262 : decode cL_law 262 = .ok (.aload_n 1, 1) := by decide +kernel
theorem dL_law_263 : decode cL_law 263 = .ok (.invokevirtual 36, 3) := by decide +kernel
theorem dL_law_266 : decode cL_law 266 = .ok (.aload_n 2, 1) := by decide +kernel
theorem dL_law_267 : decode cL_law 267 = .ok (.invokevirtual 40, 3) := by decide +kernel
theorem dL_law_270 : decode cL_law 270 = .ok (.if_icmp .eq 978, 3) := by decide +kernel
theorem dL_law_273 : decode cL_law 273 = .ok (.iconst 0, 1) := by decide +kernel
theorem dL_law_274 : decode cL_law 274 = .ok (.ireturn, 1) := by decide +kernel
theorem dL_law_275 : decode cL_law 275 = .ok (.aload_n 1, 1) := by decide +kernel
theorem dL_law_276 : decode cL_law 276 = .ok (.aload_n 0, 1) := by decide +kernel
theorem dL_law_277 : decode cL_law 277 = .ok (.iload 4, 2) := by decide +kernel
theorem dL_law_279 : decode cL_law 279 = .ok (.iconst 1, 1) := by decide +kernel
theorem dL_law_280 : decode cL_law 280 = .ok (.iadd, 1) := by decide +kernel
theorem dL_law_281 : decode cL_law 281 = .ok (.iaload, 1) := by decide +kernel
theorem dL_law_282 : decode cL_law 282 = .ok (.invokevirtual 41, 3) := by decide +kernel
theorem dL_law_285 : decode cL_law 285 = .ok (.aload_n 2, 1) := by decide +kernel
theorem dL_law_286 : decode cL_law 286 = .ok (.aload_n 0, 1) := by decide +kernel
theorem dL_law_287 : decode cL_law 287 = .ok (.iload 4, 2) := by decide +kernel
theorem dL_law_289 : decode cL_law 289 = .ok (.iconst 1, 1) := by decide +kernel
theorem dL_law_290 : decode cL_law 290 = .ok (.iadd, 1) := by decide +kernel
theorem dL_law_291 : decode cL_law 291 = .ok (.iaload, 1) := by decide +kernel
theorem dL_law_292 : decode cL_law 292 = .ok (.invokevirtual 45, 3) := by decide +kernel
theorem dL_law_295 : decode cL_law 295 = .ok (.if_icmp .eq 953, 3) := by decide +kernel
theorem dL_law_298 : decode cL_law 298 = .ok (.iconst 0, 1) := by decide +kernel
theorem dL_law_299 : decode cL_law 299 = .ok (.ireturn, 1) := by decide +kernel
theorem dL_law_300 : decode cL_law 300 = .ok (.aload_n 1, 1) := by decide +kernel
theorem dL_law_301 : decode cL_law 301 = .ok (.aload_n 0, 1) := by decide +kernel
theorem dL_law_302 : decode cL_law 302 = .ok (.iload 4, 2) := by decide +kernel
theorem dL_law_304 : decode cL_law 304 = .ok (.iconst 1, 1) := by decide +kernel
theorem dL_law_305 : decode cL_law 305 = .ok (.iadd, 1) := by decide +kernel
theorem dL_law_306 : decode cL_law 306 = .ok (.iaload, 1) := by decide +kernel
theorem dL_law_307 : decode cL_law 307 = .ok (.aload_n 0, 1) := by decide +kernel
theorem dL_law_308 : decode cL_law 308 = .ok (.iload 4, 2) := by decide +kernel
theorem dL_law_310 : decode cL_law 310 = .ok (.iconst 2, 1) := by decide +kernel
theorem dL_law_311 : decode cL_law 311 = .ok (.iadd, 1) := by decide +kernel
theorem dL_law_312 : decode cL_law 312 = .ok (.iaload, 1) := by decide +kernel
theorem dL_law_313 : decode cL_law 313 = .ok (.invokevirtual 46, 3) := by decide +kernel
theorem dL_law_316 : decode cL_law 316 = .ok (.aload_n 2, 1) := by decide +kernel
theorem dL_law_317 : decode cL_law 317 = .ok (.aload_n 0, 1) := by decide +kernel
theorem dL_law_318 : decode cL_law 318 = .ok (.iload 4, 2) := by decide +kernel
theorem dL_law_320 : decode cL_law 320 = .ok (.iconst 1, 1) := by decide +kernel
theorem dL_law_321 : decode cL_law 321 = .ok (.iadd, 1) := by decide +kernel
theorem dL_law_322 : decode cL_law 322 = .ok (.iaload, 1) := by decide +kernel
theorem dL_law_323 : decode cL_law 323 = .ok (.aload_n 0, 1) := by decide +kernel
theorem dL_law_324 : decode cL_law 324 = .ok (.iload 4, 2) := by decide +kernel
theorem dL_law_326 : decode cL_law 326 = .ok (.iconst 2, 1) := by decide +kernel
theorem dL_law_327 : decode cL_law 327 = .ok (.iadd, 1) := by decide +kernel
theorem dL_law_328 : decode cL_law 328 = .ok (.iaload, 1) := by decide +kernel
theorem dL_law_329 : decode cL_law 329 = .ok (.invokevirtual 50, 3) := by decide +kernel
theorem dL_law_332 : decode cL_law 332 = .ok (.if_icmp .eq 916, 3) := by decide +kernel
theorem dL_law_335 : decode cL_law 335 = .ok (.iconst 0, 1) := by decide +kernel
theorem dL_law_336 : decode cL_law 336 = .ok (.ireturn, 1) := by decide +kernel
theorem dL_law_337 : decode cL_law 337 = .ok (.aload_n 1, 1) := by decide +kernel
theorem dL_law_338 : decode cL_law 338 = .ok (.aload_n 0, 1) := by decide +kernel
theorem dL_law_339 : decode cL_law 339 = .ok (.iload 4, 2) := by decide +kernel
theorem dL_law_341 : decode cL_law 341 = .ok (.iconst 1, 1) := by decide +kernel
theorem dL_law_342 : decode cL_law 342 = .ok (.iadd, 1) := by decide +kernel
theorem dL_law_343 : decode cL_law 343 = .ok (.iaload, 1) := by decide +kernel
theorem dL_law_344 : decode cL_law 344 = .ok (.aload_n 0, 1) := by decide +kernel
theorem dL_law_345 : decode cL_law 345 = .ok (.iload 4, 2) := by decide +kernel
theorem dL_law_347 : decode cL_law 347 = .ok (.iconst 2, 1) := by decide +kernel
theorem dL_law_348 : decode cL_law 348 = .ok (.iadd, 1) := by decide +kernel
theorem dL_law_349 : decode cL_law 349 = .ok (.iaload, 1) := by decide +kernel
theorem dL_law_350 : decode cL_law 350 = .ok (.invokevirtual 51, 3) := by decide +kernel
theorem dL_law_353 : decode cL_law 353 = .ok (.aload_n 2, 1) := by decide +kernel
theorem dL_law_354 : decode cL_law 354 = .ok (.aload_n 0, 1) := by decide +kernel
theorem dL_law_355 : decode cL_law 355 = .ok (.iload 4, 2) := by decide +kernel
theorem dL_law_357 : decode cL_law 357 = .ok (.iconst 1, 1) := by decide +kernel
theorem dL_law_358 : decode cL_law 358 = .ok (.iadd, 1) := by decide +kernel
theorem dL_law_359 : decode cL_law 359 = .ok (.iaload, 1) := by decide +kernel
theorem dL_law_360 : decode cL_law 360 = .ok (.aload_n 0, 1) := by decide +kernel
theorem dL_law_361 : decode cL_law 361 = .ok (.iload 4, 2) := by decide +kernel
theorem dL_law_363 : decode cL_law 363 = .ok (.iconst 2, 1) := by decide +kernel
theorem dL_law_364 : decode cL_law 364 = .ok (.iadd, 1) := by decide +kernel
theorem dL_law_365 : decode cL_law 365 = .ok (.iaload, 1) := by decide +kernel
theorem dL_law_366 : decode cL_law 366 = .ok (.invokevirtual 55, 3) := by decide +kernel
theorem dL_law_369 : decode cL_law 369 = .ok (.if_icmp .eq 879, 3) := by decide +kernel
theorem dL_law_372 : decode cL_law 372 = .ok (.iconst 0, 1) := by decide +kernel
theorem dL_law_373 : decode cL_law 373 = .ok (.ireturn, 1) := by decide +kernel
theorem dL_law_374 : decode cL_law 374 = .ok (.aload_n 1, 1) := by decide +kernel
theorem dL_law_375 : decode cL_law 375 = .ok (.aload_n 0, 1) := by decide +kernel
theorem dL_law_376 : decode cL_law 376 = .ok (.iload 4, 2) := by decide +kernel
theorem dL_law_378 : decode cL_law 378 = .ok (.iconst 1, 1) := by decide +kernel
theorem dL_law_379 : decode cL_law 379 = .ok (.iadd, 1) := by decide +kernel
theorem dL_law_380 : decode cL_law 380 = .ok (.iaload, 1) := by decide +kernel
theorem dL_law_381 : decode cL_law 381 = .ok (.aload_n 0, 1) := by decide +kernel
theorem dL_law_382 : decode cL_law 382 = .ok (.iload 4, 2) := by decide +kernel
theorem dL_law_384 : decode cL_law 384 = .ok (.iconst 2, 1) := by decide +kernel
theorem dL_law_385 : decode cL_law 385 = .ok (.iadd, 1) := by decide +kernel
theorem dL_law_386 : decode cL_law 386 = .ok (.iaload, 1) := by decide +kernel
theorem dL_law_387 : decode cL_law 387 = .ok (.invokevirtual 56, 3) := by decide +kernel
theorem dL_law_390 : decode cL_law 390 = .ok (.aload_n 2, 1) := by decide +kernel
theorem dL_law_391 : decode cL_law 391 = .ok (.aload_n 0, 1) := by decide +kernel
theorem dL_law_392 : decode cL_law 392 = .ok (.iload 4, 2) := by decide +kernel
theorem dL_law_394 : decode cL_law 394 = .ok (.iconst 1, 1) := by decide +kernel
theorem dL_law_395 : decode cL_law 395 = .ok (.iadd, 1) := by decide +kernel
theorem dL_law_396 : decode cL_law 396 = .ok (.iaload, 1) := by decide +kernel
theorem dL_law_397 : decode cL_law 397 = .ok (.aload_n 0, 1) := by decide +kernel
theorem dL_law_398 : decode cL_law 398 = .ok (.iload 4, 2) := by decide +kernel
theorem dL_law_400 : decode cL_law 400 = .ok (.iconst 2, 1) := by decide +kernel
theorem dL_law_401 : decode cL_law 401 = .ok (.iadd, 1) := by decide +kernel
theorem dL_law_402 : decode cL_law 402 = .ok (.iaload, 1) := by decide +kernel
theorem dL_law_403 : decode cL_law 403 = .ok (.invokevirtual 59, 3) := by decide +kernel
theorem dL_law_406 : decode cL_law 406 = .ok (.if_icmp .eq 842, 3) := by decide +kernel
theorem dL_law_409 : decode cL_law 409 = .ok (.iconst 0, 1) := by decide +kernel
theorem dL_law_410 : decode cL_law 410 = .ok (.ireturn, 1) := by decide +kernel
theorem dL_law_411 : decode cL_law 411 = .ok (.aload_n 1, 1) := by decide +kernel
theorem dL_law_412 : decode cL_law 412 = .ok (.aload_n 0, 1) := by decide +kernel
theorem dL_law_413 : decode cL_law 413 = .ok (.iload 4, 2) := by decide +kernel
theorem dL_law_415 : decode cL_law 415 = .ok (.iconst 1, 1) := by decide +kernel
theorem dL_law_416 : decode cL_law 416 = .ok (.iadd, 1) := by decide +kernel
theorem dL_law_417 : decode cL_law 417 = .ok (.iaload, 1) := by decide +kernel
theorem dL_law_418 : decode cL_law 418 = .ok (.aload_n 0, 1) := by decide +kernel
theorem dL_law_419 : decode cL_law 419 = .ok (.iload 4, 2) := by decide +kernel
theorem dL_law_421 : decode cL_law 421 = .ok (.iconst 2, 1) := by decide +kernel
theorem dL_law_422 : decode cL_law 422 = .ok (.iadd, 1) := by decide +kernel
theorem dL_law_423 : decode cL_law 423 = .ok (.iaload, 1) := by decide +kernel
theorem dL_law_424 : decode cL_law 424 = .ok (.invokevirtual 60, 3) := by decide +kernel
theorem dL_law_427 : decode cL_law 427 = .ok (.aload_n 2, 1) := by decide +kernel
theorem dL_law_428 : decode cL_law 428 = .ok (.aload_n 0, 1) := by decide +kernel
theorem dL_law_429 : decode cL_law 429 = .ok (.iload 4, 2) := by decide +kernel
theorem dL_law_431 : decode cL_law 431 = .ok (.iconst 1, 1) := by decide +kernel
theorem dL_law_432 : decode cL_law 432 = .ok (.iadd, 1) := by decide +kernel
theorem dL_law_433 : decode cL_law 433 = .ok (.iaload, 1) := by decide +kernel
theorem dL_law_434 : decode cL_law 434 = .ok (.aload_n 0, 1) := by decide +kernel
theorem dL_law_435 : decode cL_law 435 = .ok (.iload 4, 2) := by decide +kernel
theorem dL_law_437 : decode cL_law 437 = .ok (.iconst 2, 1) := by decide +kernel
theorem dL_law_438 : decode cL_law 438 = .ok (.iadd, 1) := by decide +kernel
theorem dL_law_439 : decode cL_law 439 = .ok (.iaload, 1) := by decide +kernel
theorem dL_law_440 : decode cL_law 440 = .ok (.invokevirtual 63, 3) := by decide +kernel
theorem dL_law_443 : decode cL_law 443 = .ok (.if_icmp .eq 805, 3) := by decide +kernel
theorem dL_law_446 : decode cL_law 446 = .ok (.iconst 0, 1) := by decide +kernel
theorem dL_law_447 : decode cL_law 447 = .ok (.ireturn, 1) := by decide +kernel
theorem dL_law_448 : decode cL_law 448 = .ok (.aload_n 1, 1) := by decide +kernel
theorem dL_law_449 : decode cL_law 449 = .ok (.aload_n 0, 1) := by decide +kernel
theorem dL_law_450 : decode cL_law 450 = .ok (.iload 4, 2) := by decide +kernel
theorem dL_law_452 : decode cL_law 452 = .ok (.iconst 1, 1) := by decide +kernel
theorem dL_law_453 : decode cL_law 453 = .ok (.iadd, 1) := by decide +kernel
theorem dL_law_454 : decode cL_law 454 = .ok (.iaload, 1) := by decide +kernel
theorem dL_law_455 : decode cL_law 455 = .ok (.aload_n 0, 1) := by decide +kernel
theorem dL_law_456 : decode cL_law 456 = .ok (.iload 4, 2) := by decide +kernel
theorem dL_law_458 : decode cL_law 458 = .ok (.iconst 2, 1) := by decide +kernel
theorem dL_law_459 : decode cL_law 459 = .ok (.iadd, 1) := by decide +kernel
theorem dL_law_460 : decode cL_law 460 = .ok (.iaload, 1) := by decide +kernel
theorem dL_law_461 : decode cL_law 461 = .ok (.invokevirtual 64, 3) := by decide +kernel
theorem dL_law_464 : decode cL_law 464 = .ok (.aload_n 2, 1) := by decide +kernel
theorem dL_law_465 : decode cL_law 465 = .ok (.aload_n 0, 1) := by decide +kernel
theorem dL_law_466 : decode cL_law 466 = .ok (.iload 4, 2) := by decide +kernel
theorem dL_law_468 : decode cL_law 468 = .ok (.iconst 1, 1) := by decide +kernel
theorem dL_law_469 : decode cL_law 469 = .ok (.iadd, 1) := by decide +kernel
theorem dL_law_470 : decode cL_law 470 = .ok (.iaload, 1) := by decide +kernel
theorem dL_law_471 : decode cL_law 471 = .ok (.aload_n 0, 1) := by decide +kernel
theorem dL_law_472 : decode cL_law 472 = .ok (.iload 4, 2) := by decide +kernel
theorem dL_law_474 : decode cL_law 474 = .ok (.iconst 2, 1) := by decide +kernel
theorem dL_law_475 : decode cL_law 475 = .ok (.iadd, 1) := by decide +kernel
theorem dL_law_476 : decode cL_law 476 = .ok (.iaload, 1) := by decide +kernel
theorem dL_law_477 : decode cL_law 477 = .ok (.invokevirtual 67, 3) := by decide +kernel
theorem dL_law_480 : decode cL_law 480 = .ok (.lcmp, 1) := by decide +kernel
theorem dL_law_481 : decode cL_law 481 = .ok (.ifCond .eq 767, 3) := by decide +kernel
theorem dL_law_484 : decode cL_law 484 = .ok (.iconst 0, 1) := by decide +kernel
theorem dL_law_485 : decode cL_law 485 = .ok (.ireturn, 1) := by decide +kernel
theorem dL_law_486 : decode cL_law 486 = .ok (.aload_n 1, 1) := by decide +kernel
theorem dL_law_487 : decode cL_law 487 = .ok (.aload_n 0, 1) := by decide +kernel
theorem dL_law_488 : decode cL_law 488 = .ok (.iload 4, 2) := by decide +kernel
theorem dL_law_490 : decode cL_law 490 = .ok (.iconst 1, 1) := by decide +kernel
theorem dL_law_491 : decode cL_law 491 = .ok (.iadd, 1) := by decide +kernel
theorem dL_law_492 : decode cL_law 492 = .ok (.iaload, 1) := by decide +kernel
theorem dL_law_493 : decode cL_law 493 = .ok (.invokevirtual 68, 3) := by decide +kernel
theorem dL_law_496 : decode cL_law 496 = .ok (.aload_n 2, 1) := by decide +kernel
theorem dL_law_497 : decode cL_law 497 = .ok (.aload_n 0, 1) := by decide +kernel
theorem dL_law_498 : decode cL_law 498 = .ok (.iload 4, 2) := by decide +kernel
theorem dL_law_500 : decode cL_law 500 = .ok (.iconst 1, 1) := by decide +kernel
theorem dL_law_501 : decode cL_law 501 = .ok (.iadd, 1) := by decide +kernel
theorem dL_law_502 : decode cL_law 502 = .ok (.iaload, 1) := by decide +kernel
theorem dL_law_503 : decode cL_law 503 = .ok (.invokevirtual 72, 3) := by decide +kernel
theorem dL_law_506 : decode cL_law 506 = .ok (.lcmp, 1) := by decide +kernel
theorem dL_law_507 : decode cL_law 507 = .ok (.ifCond .eq 741, 3) := by decide +kernel
theorem dL_law_510 : decode cL_law 510 = .ok (.iconst 0, 1) := by decide +kernel
theorem dL_law_511 : decode cL_law 511 = .ok (.ireturn, 1) := by decide +kernel
theorem dL_law_512 : decode cL_law 512 = .ok (.aload_n 1, 1) := by decide +kernel
theorem dL_law_513 : decode cL_law 513 = .ok (.aload_n 0, 1) := by decide +kernel
theorem dL_law_514 : decode cL_law 514 = .ok (.iload 4, 2) := by decide +kernel
theorem dL_law_516 : decode cL_law 516 = .ok (.iconst 1, 1) := by decide +kernel
theorem dL_law_517 : decode cL_law 517 = .ok (.iadd, 1) := by decide +kernel
theorem dL_law_518 : decode cL_law 518 = .ok (.iaload, 1) := by decide +kernel
theorem dL_law_519 : decode cL_law 519 = .ok (.aload_n 0, 1) := by decide +kernel
theorem dL_law_520 : decode cL_law 520 = .ok (.iload 4, 2) := by decide +kernel
theorem dL_law_522 : decode cL_law 522 = .ok (.iconst 2, 1) := by decide +kernel
theorem dL_law_523 : decode cL_law 523 = .ok (.iadd, 1) := by decide +kernel
theorem dL_law_524 : decode cL_law 524 = .ok (.iaload, 1) := by decide +kernel
theorem dL_law_525 : decode cL_law 525 = .ok (.aload_n 3, 1) := by decide +kernel
theorem dL_law_526 : decode cL_law 526 = .ok (.invokestatic 73, 3) := by decide +kernel
theorem dL_law_529 : decode cL_law 529 = .ok (.istore 5, 2) := by decide +kernel
theorem dL_law_531 : decode cL_law 531 = .ok (.aload_n 2, 1) := by decide +kernel
theorem dL_law_532 : decode cL_law 532 = .ok (.aload_n 0, 1) := by decide +kernel
theorem dL_law_533 : decode cL_law 533 = .ok (.iload 4, 2) := by decide +kernel
theorem dL_law_535 : decode cL_law 535 = .ok (.iconst 1, 1) := by decide +kernel
theorem dL_law_536 : decode cL_law 536 = .ok (.iadd, 1) := by decide +kernel
theorem dL_law_537 : decode cL_law 537 = .ok (.iaload, 1) := by decide +kernel
theorem dL_law_538 : decode cL_law 538 = .ok (.aload_n 0, 1) := by decide +kernel
theorem dL_law_539 : decode cL_law 539 = .ok (.iload 4, 2) := by decide +kernel
theorem dL_law_541 : decode cL_law 541 = .ok (.iconst 2, 1) := by decide +kernel
theorem dL_law_542 : decode cL_law 542 = .ok (.iadd, 1) := by decide +kernel
theorem dL_law_543 : decode cL_law 543 = .ok (.iaload, 1) := by decide +kernel
theorem dL_law_544 : decode cL_law 544 = .ok (.invokevirtual 78, 3) := by decide +kernel
theorem dL_law_547 : decode cL_law 547 = .ok (.lstore 6, 2) := by decide +kernel
theorem dL_law_549 : decode cL_law 549 = .ok (.aload_n 2, 1) := by decide +kernel
theorem dL_law_550 : decode cL_law 550 = .ok (.invokevirtual 79, 3) := by decide +kernel
theorem dL_law_553 : decode cL_law 553 = .ok (.iload 5, 2) := by decide +kernel
theorem dL_law_555 : decode cL_law 555 = .ok (.if_icmp .eq 5, 3) := by decide +kernel
theorem dL_law_558 : decode cL_law 558 = .ok (.iconst 0, 1) := by decide +kernel
theorem dL_law_559 : decode cL_law 559 = .ok (.ireturn, 1) := by decide +kernel
theorem dL_law_560 : decode cL_law 560 = .ok (.iload 5, 2) := by decide +kernel
theorem dL_law_562 : decode cL_law 562 = .ok (.ifCond .ne 14, 3) := by decide +kernel
theorem dL_law_565 : decode cL_law 565 = .ok (.aload_n 3, 1) := by decide +kernel
theorem dL_law_566 : decode cL_law 566 = .ok (.iconst 0, 1) := by decide +kernel
theorem dL_law_567 : decode cL_law 567 = .ok (.laload, 1) := by decide +kernel
theorem dL_law_568 : decode cL_law 568 = .ok (.lload 6, 2) := by decide +kernel
theorem dL_law_570 : decode cL_law 570 = .ok (.lcmp, 1) := by decide +kernel
theorem dL_law_571 : decode cL_law 571 = .ok (.ifCond .eq 5, 3) := by decide +kernel
theorem dL_law_574 : decode cL_law 574 = .ok (.iconst 0, 1) := by decide +kernel
theorem dL_law_575 : decode cL_law 575 = .ok (.ireturn, 1) := by decide +kernel
theorem dL_law_576 : decode cL_law 576 = .ok (.goto 672, 3) := by decide +kernel
theorem dL_law_579 : decode cL_law 579 = .ok (.aload_n 1, 1) := by decide +kernel
theorem dL_law_580 : decode cL_law 580 = .ok (.aload_n 0, 1) := by decide +kernel
theorem dL_law_581 : decode cL_law 581 = .ok (.iload 4, 2) := by decide +kernel
theorem dL_law_583 : decode cL_law 583 = .ok (.iconst 1, 1) := by decide +kernel
theorem dL_law_584 : decode cL_law 584 = .ok (.iadd, 1) := by decide +kernel
theorem dL_law_585 : decode cL_law 585 = .ok (.iaload, 1) := by decide +kernel
theorem dL_law_586 : decode cL_law 586 = .ok (.aload_n 0, 1) := by decide +kernel
theorem dL_law_587 : decode cL_law 587 = .ok (.iload 4, 2) := by decide +kernel
theorem dL_law_589 : decode cL_law 589 = .ok (.iconst 2, 1) := by decide +kernel
theorem dL_law_590 : decode cL_law 590 = .ok (.iadd, 1) := by decide +kernel
theorem dL_law_591 : decode cL_law 591 = .ok (.iaload, 1) := by decide +kernel
theorem dL_law_592 : decode cL_law 592 = .ok (.invokevirtual 82, 3) := by decide +kernel
theorem dL_law_595 : decode cL_law 595 = .ok (.aload_n 2, 1) := by decide +kernel
theorem dL_law_596 : decode cL_law 596 = .ok (.aload_n 0, 1) := by decide +kernel
theorem dL_law_597 : decode cL_law 597 = .ok (.iload 4, 2) := by decide +kernel
theorem dL_law_599 : decode cL_law 599 = .ok (.iconst 1, 1) := by decide +kernel
theorem dL_law_600 : decode cL_law 600 = .ok (.iadd, 1) := by decide +kernel
theorem dL_law_601 : decode cL_law 601 = .ok (.iaload, 1) := by decide +kernel
theorem dL_law_602 : decode cL_law 602 = .ok (.aload_n 0, 1) := by decide +kernel
theorem dL_law_603 : decode cL_law 603 = .ok (.iload 4, 2) := by decide +kernel
theorem dL_law_605 : decode cL_law 605 = .ok (.iconst 2, 1) := by decide +kernel
theorem dL_law_606 : decode cL_law 606 = .ok (.iadd, 1) := by decide +kernel
theorem dL_law_607 : decode cL_law 607 = .ok (.iaload, 1) := by decide +kernel
theorem dL_law_608 : decode cL_law 608 = .ok (.invokevirtual 85, 3) := by decide +kernel
theorem dL_law_611 : decode cL_law 611 = .ok (.if_icmp .eq 637, 3) := by decide +kernel
theorem dL_law_614 : decode cL_law 614 = .ok (.iconst 0, 1) := by decide +kernel
theorem dL_law_615 : decode cL_law 615 = .ok (.ireturn, 1) := by decide +kernel
theorem dL_law_616 : decode cL_law 616 = .ok (.aload_n 1, 1) := by decide +kernel
theorem dL_law_617 : decode cL_law 617 = .ok (.aload_n 0, 1) := by decide +kernel
theorem dL_law_618 : decode cL_law 618 = .ok (.iload 4, 2) := by decide +kernel
theorem dL_law_620 : decode cL_law 620 = .ok (.iconst 1, 1) := by decide +kernel
theorem dL_law_621 : decode cL_law 621 = .ok (.iadd, 1) := by decide +kernel
theorem dL_law_622 : decode cL_law 622 = .ok (.iaload, 1) := by decide +kernel
theorem dL_law_623 : decode cL_law 623 = .ok (.aload_n 0, 1) := by decide +kernel
theorem dL_law_624 : decode cL_law 624 = .ok (.iload 4, 2) := by decide +kernel
theorem dL_law_626 : decode cL_law 626 = .ok (.iconst 2, 1) := by decide +kernel
theorem dL_law_627 : decode cL_law 627 = .ok (.iadd, 1) := by decide +kernel
theorem dL_law_628 : decode cL_law 628 = .ok (.iaload, 1) := by decide +kernel
theorem dL_law_629 : decode cL_law 629 = .ok (.invokevirtual 86, 3) := by decide +kernel
theorem dL_law_632 : decode cL_law 632 = .ok (.aload_n 2, 1) := by decide +kernel
theorem dL_law_633 : decode cL_law 633 = .ok (.aload_n 0, 1) := by decide +kernel
theorem dL_law_634 : decode cL_law 634 = .ok (.iload 4, 2) := by decide +kernel
theorem dL_law_636 : decode cL_law 636 = .ok (.iconst 1, 1) := by decide +kernel
theorem dL_law_637 : decode cL_law 637 = .ok (.iadd, 1) := by decide +kernel
theorem dL_law_638 : decode cL_law 638 = .ok (.iaload, 1) := by decide +kernel
theorem dL_law_639 : decode cL_law 639 = .ok (.aload_n 0, 1) := by decide +kernel
theorem dL_law_640 : decode cL_law 640 = .ok (.iload 4, 2) := by decide +kernel
theorem dL_law_642 : decode cL_law 642 = .ok (.iconst 2, 1) := by decide +kernel
theorem dL_law_643 : decode cL_law 643 = .ok (.iadd, 1) := by decide +kernel
theorem dL_law_644 : decode cL_law 644 = .ok (.iaload, 1) := by decide +kernel
theorem dL_law_645 : decode cL_law 645 = .ok (.invokevirtual 89, 3) := by decide +kernel
theorem dL_law_648 : decode cL_law 648 = .ok (.if_icmp .eq 600, 3) := by decide +kernel
theorem dL_law_651 : decode cL_law 651 = .ok (.iconst 0, 1) := by decide +kernel
theorem dL_law_652 : decode cL_law 652 = .ok (.ireturn, 1) := by decide +kernel
theorem dL_law_653 : decode cL_law 653 = .ok (.aload_n 1, 1) := by decide +kernel
theorem dL_law_654 : decode cL_law 654 = .ok (.invokevirtual 90, 3) := by decide +kernel
theorem dL_law_657 : decode cL_law 657 = .ok (.aload_n 2, 1) := by decide +kernel
theorem dL_law_658 : decode cL_law 658 = .ok (.invokevirtual 93, 3) := by decide +kernel
theorem dL_law_661 : decode cL_law 661 = .ok (.if_icmp .eq 587, 3) := by decide +kernel
theorem dL_law_664 : decode cL_law 664 = .ok (.iconst 0, 1) := by decide +kernel
theorem dL_law_665 : decode cL_law 665 = .ok (.ireturn, 1) := by decide +kernel
theorem dL_law_666 : decode cL_law 666 = .ok (.aload_n 1, 1) := by decide +kernel
theorem dL_law_667 : decode cL_law 667 = .ok (.aload_n 0, 1) := by decide +kernel
theorem dL_law_668 : decode cL_law 668 = .ok (.iload 4, 2) := by decide +kernel
theorem dL_law_670 : decode cL_law 670 = .ok (.iconst 1, 1) := by decide +kernel
theorem dL_law_671 : decode cL_law 671 = .ok (.iadd, 1) := by decide +kernel
theorem dL_law_672 : decode cL_law 672 = .ok (.iaload, 1) := by decide +kernel
theorem dL_law_673 : decode cL_law 673 = .ok (.aload_n 0, 1) := by decide +kernel
theorem dL_law_674 : decode cL_law 674 = .ok (.iload 4, 2) := by decide +kernel
theorem dL_law_676 : decode cL_law 676 = .ok (.iconst 2, 1) := by decide +kernel
theorem dL_law_677 : decode cL_law 677 = .ok (.iadd, 1) := by decide +kernel
theorem dL_law_678 : decode cL_law 678 = .ok (.iaload, 1) := by decide +kernel
theorem dL_law_679 : decode cL_law 679 = .ok (.aload_n 0, 1) := by decide +kernel
theorem dL_law_680 : decode cL_law 680 = .ok (.iload 4, 2) := by decide +kernel
theorem dL_law_682 : decode cL_law 682 = .ok (.iconst 3, 1) := by decide +kernel
theorem dL_law_683 : decode cL_law 683 = .ok (.iadd, 1) := by decide +kernel
theorem dL_law_684 : decode cL_law 684 = .ok (.iaload, 1) := by decide +kernel
theorem dL_law_685 : decode cL_law 685 = .ok (.invokevirtual 94, 3) := by decide +kernel
theorem dL_law_688 : decode cL_law 688 = .ok (.aload_n 2, 1) := by decide +kernel
theorem dL_law_689 : decode cL_law 689 = .ok (.aload_n 0, 1) := by decide +kernel
theorem dL_law_690 : decode cL_law 690 = .ok (.iload 4, 2) := by decide +kernel
theorem dL_law_692 : decode cL_law 692 = .ok (.iconst 1, 1) := by decide +kernel
theorem dL_law_693 : decode cL_law 693 = .ok (.iadd, 1) := by decide +kernel
theorem dL_law_694 : decode cL_law 694 = .ok (.iaload, 1) := by decide +kernel
theorem dL_law_695 : decode cL_law 695 = .ok (.aload_n 0, 1) := by decide +kernel
theorem dL_law_696 : decode cL_law 696 = .ok (.iload 4, 2) := by decide +kernel
theorem dL_law_698 : decode cL_law 698 = .ok (.iconst 2, 1) := by decide +kernel
theorem dL_law_699 : decode cL_law 699 = .ok (.iadd, 1) := by decide +kernel
theorem dL_law_700 : decode cL_law 700 = .ok (.iaload, 1) := by decide +kernel
theorem dL_law_701 : decode cL_law 701 = .ok (.aload_n 0, 1) := by decide +kernel
theorem dL_law_702 : decode cL_law 702 = .ok (.iload 4, 2) := by decide +kernel
theorem dL_law_704 : decode cL_law 704 = .ok (.iconst 3, 1) := by decide +kernel
theorem dL_law_705 : decode cL_law 705 = .ok (.iadd, 1) := by decide +kernel
theorem dL_law_706 : decode cL_law 706 = .ok (.iaload, 1) := by decide +kernel
theorem dL_law_707 : decode cL_law 707 = .ok (.invokevirtual 98, 3) := by decide +kernel
theorem dL_law_710 : decode cL_law 710 = .ok (.if_icmp .eq 538, 3) := by decide +kernel
theorem dL_law_713 : decode cL_law 713 = .ok (.iconst 0, 1) := by decide +kernel
theorem dL_law_714 : decode cL_law 714 = .ok (.ireturn, 1) := by decide +kernel
theorem dL_law_715 : decode cL_law 715 = .ok (.aload_n 1, 1) := by decide +kernel
theorem dL_law_716 : decode cL_law 716 = .ok (.aload_n 0, 1) := by decide +kernel
theorem dL_law_717 : decode cL_law 717 = .ok (.iload 4, 2) := by decide +kernel
theorem dL_law_719 : decode cL_law 719 = .ok (.iconst 1, 1) := by decide +kernel
theorem dL_law_720 : decode cL_law 720 = .ok (.iadd, 1) := by decide +kernel
theorem dL_law_721 : decode cL_law 721 = .ok (.iaload, 1) := by decide +kernel
theorem dL_law_722 : decode cL_law 722 = .ok (.aload_n 0, 1) := by decide +kernel
theorem dL_law_723 : decode cL_law 723 = .ok (.iload 4, 2) := by decide +kernel
theorem dL_law_725 : decode cL_law 725 = .ok (.iconst 2, 1) := by decide +kernel
theorem dL_law_726 : decode cL_law 726 = .ok (.iadd, 1) := by decide +kernel
theorem dL_law_727 : decode cL_law 727 = .ok (.iaload, 1) := by decide +kernel
theorem dL_law_728 : decode cL_law 728 = .ok (.invokevirtual 99, 3) := by decide +kernel
theorem dL_law_731 : decode cL_law 731 = .ok (.aload_n 2, 1) := by decide +kernel
theorem dL_law_732 : decode cL_law 732 = .ok (.aload_n 0, 1) := by decide +kernel
theorem dL_law_733 : decode cL_law 733 = .ok (.iload 4, 2) := by decide +kernel
theorem dL_law_735 : decode cL_law 735 = .ok (.iconst 1, 1) := by decide +kernel
theorem dL_law_736 : decode cL_law 736 = .ok (.iadd, 1) := by decide +kernel
theorem dL_law_737 : decode cL_law 737 = .ok (.iaload, 1) := by decide +kernel
theorem dL_law_738 : decode cL_law 738 = .ok (.aload_n 0, 1) := by decide +kernel
theorem dL_law_739 : decode cL_law 739 = .ok (.iload 4, 2) := by decide +kernel
theorem dL_law_741 : decode cL_law 741 = .ok (.iconst 2, 1) := by decide +kernel
theorem dL_law_742 : decode cL_law 742 = .ok (.iadd, 1) := by decide +kernel
theorem dL_law_743 : decode cL_law 743 = .ok (.iaload, 1) := by decide +kernel
theorem dL_law_744 : decode cL_law 744 = .ok (.invokevirtual 102, 3) := by decide +kernel
theorem dL_law_747 : decode cL_law 747 = .ok (.if_icmp .eq 501, 3) := by decide +kernel
theorem dL_law_750 : decode cL_law 750 = .ok (.iconst 0, 1) := by decide +kernel
theorem dL_law_751 : decode cL_law 751 = .ok (.ireturn, 1) := by decide +kernel
theorem dL_law_752 : decode cL_law 752 = .ok (.aload_n 1, 1) := by decide +kernel
theorem dL_law_753 : decode cL_law 753 = .ok (.aload_n 0, 1) := by decide +kernel
theorem dL_law_754 : decode cL_law 754 = .ok (.iload 4, 2) := by decide +kernel
theorem dL_law_756 : decode cL_law 756 = .ok (.iconst 1, 1) := by decide +kernel
theorem dL_law_757 : decode cL_law 757 = .ok (.iadd, 1) := by decide +kernel
theorem dL_law_758 : decode cL_law 758 = .ok (.iaload, 1) := by decide +kernel
theorem dL_law_759 : decode cL_law 759 = .ok (.invokevirtual 103, 3) := by decide +kernel
theorem dL_law_762 : decode cL_law 762 = .ok (.aload_n 2, 1) := by decide +kernel
theorem dL_law_763 : decode cL_law 763 = .ok (.aload_n 0, 1) := by decide +kernel
theorem dL_law_764 : decode cL_law 764 = .ok (.iload 4, 2) := by decide +kernel
theorem dL_law_766 : decode cL_law 766 = .ok (.iconst 1, 1) := by decide +kernel
theorem dL_law_767 : decode cL_law 767 = .ok (.iadd, 1) := by decide +kernel
theorem dL_law_768 : decode cL_law 768 = .ok (.iaload, 1) := by decide +kernel
theorem dL_law_769 : decode cL_law 769 = .ok (.invokevirtual 106, 3) := by decide +kernel
theorem dL_law_772 : decode cL_law 772 = .ok (.if_icmp .eq 476, 3) := by decide +kernel
theorem dL_law_775 : decode cL_law 775 = .ok (.iconst 0, 1) := by decide +kernel
theorem dL_law_776 : decode cL_law 776 = .ok (.ireturn, 1) := by decide +kernel
theorem dL_law_777 : decode cL_law 777 = .ok (.aload_n 1, 1) := by decide +kernel
theorem dL_law_778 : decode cL_law 778 = .ok (.aload_n 0, 1) := by decide +kernel
theorem dL_law_779 : decode cL_law 779 = .ok (.iload 4, 2) := by decide +kernel
theorem dL_law_781 : decode cL_law 781 = .ok (.iconst 1, 1) := by decide +kernel
theorem dL_law_782 : decode cL_law 782 = .ok (.iadd, 1) := by decide +kernel
theorem dL_law_783 : decode cL_law 783 = .ok (.iaload, 1) := by decide +kernel
theorem dL_law_784 : decode cL_law 784 = .ok (.aload_n 0, 1) := by decide +kernel
theorem dL_law_785 : decode cL_law 785 = .ok (.iload 4, 2) := by decide +kernel
theorem dL_law_787 : decode cL_law 787 = .ok (.iconst 2, 1) := by decide +kernel
theorem dL_law_788 : decode cL_law 788 = .ok (.iadd, 1) := by decide +kernel
theorem dL_law_789 : decode cL_law 789 = .ok (.iaload, 1) := by decide +kernel
theorem dL_law_790 : decode cL_law 790 = .ok (.aload_n 3, 1) := by decide +kernel
theorem dL_law_791 : decode cL_law 791 = .ok (.invokestatic 107, 3) := by decide +kernel
theorem dL_law_794 : decode cL_law 794 = .ok (.istore 5, 2) := by decide +kernel
theorem dL_law_796 : decode cL_law 796 = .ok (.aload_n 2, 1) := by decide +kernel
theorem dL_law_797 : decode cL_law 797 = .ok (.aload_n 0, 1) := by decide +kernel
theorem dL_law_798 : decode cL_law 798 = .ok (.iload 4, 2) := by decide +kernel
theorem dL_law_800 : decode cL_law 800 = .ok (.iconst 1, 1) := by decide +kernel
theorem dL_law_801 : decode cL_law 801 = .ok (.iadd, 1) := by decide +kernel
theorem dL_law_802 : decode cL_law 802 = .ok (.iaload, 1) := by decide +kernel
theorem dL_law_803 : decode cL_law 803 = .ok (.aload_n 0, 1) := by decide +kernel
theorem dL_law_804 : decode cL_law 804 = .ok (.iload 4, 2) := by decide +kernel
theorem dL_law_806 : decode cL_law 806 = .ok (.iconst 2, 1) := by decide +kernel
theorem dL_law_807 : decode cL_law 807 = .ok (.iadd, 1) := by decide +kernel
theorem dL_law_808 : decode cL_law 808 = .ok (.iaload, 1) := by decide +kernel
theorem dL_law_809 : decode cL_law 809 = .ok (.invokevirtual 109, 3) := by decide +kernel
theorem dL_law_812 : decode cL_law 812 = .ok (.lstore 6, 2) := by decide +kernel
theorem dL_law_814 : decode cL_law 814 = .ok (.aload_n 2, 1) := by decide +kernel
theorem dL_law_815 : decode cL_law 815 = .ok (.invokevirtual 79, 3) := by decide +kernel
theorem dL_law_818 : decode cL_law 818 = .ok (.iload 5, 2) := by decide +kernel
theorem dL_law_820 : decode cL_law 820 = .ok (.if_icmp .eq 5, 3) := by decide +kernel
theorem dL_law_823 : decode cL_law 823 = .ok (.iconst 0, 1) := by decide +kernel
theorem dL_law_824 : decode cL_law 824 = .ok (.ireturn, 1) := by decide +kernel
theorem dL_law_825 : decode cL_law 825 = .ok (.iload 5, 2) := by decide +kernel
theorem dL_law_827 : decode cL_law 827 = .ok (.ifCond .ne 14, 3) := by decide +kernel
theorem dL_law_830 : decode cL_law 830 = .ok (.aload_n 3, 1) := by decide +kernel
theorem dL_law_831 : decode cL_law 831 = .ok (.iconst 0, 1) := by decide +kernel
theorem dL_law_832 : decode cL_law 832 = .ok (.laload, 1) := by decide +kernel
theorem dL_law_833 : decode cL_law 833 = .ok (.lload 6, 2) := by decide +kernel
theorem dL_law_835 : decode cL_law 835 = .ok (.lcmp, 1) := by decide +kernel
theorem dL_law_836 : decode cL_law 836 = .ok (.ifCond .eq 5, 3) := by decide +kernel
theorem dL_law_839 : decode cL_law 839 = .ok (.iconst 0, 1) := by decide +kernel
theorem dL_law_840 : decode cL_law 840 = .ok (.ireturn, 1) := by decide +kernel
theorem dL_law_841 : decode cL_law 841 = .ok (.goto 407, 3) := by decide +kernel
theorem dL_law_844 : decode cL_law 844 = .ok (.aload_n 1, 1) := by decide +kernel
theorem dL_law_845 : decode cL_law 845 = .ok (.aload_n 0, 1) := by decide +kernel
theorem dL_law_846 : decode cL_law 846 = .ok (.iload 4, 2) := by decide +kernel
theorem dL_law_848 : decode cL_law 848 = .ok (.iconst 1, 1) := by decide +kernel
theorem dL_law_849 : decode cL_law 849 = .ok (.iadd, 1) := by decide +kernel
theorem dL_law_850 : decode cL_law 850 = .ok (.iaload, 1) := by decide +kernel
theorem dL_law_851 : decode cL_law 851 = .ok (.invokevirtual 110, 3) := by decide +kernel
theorem dL_law_854 : decode cL_law 854 = .ok (.aload_n 2, 1) := by decide +kernel
theorem dL_law_855 : decode cL_law 855 = .ok (.aload_n 0, 1) := by decide +kernel
theorem dL_law_856 : decode cL_law 856 = .ok (.iload 4, 2) := by decide +kernel
theorem dL_law_858 : decode cL_law 858 = .ok (.iconst 1, 1) := by decide +kernel
theorem dL_law_859 : decode cL_law 859 = .ok (.iadd, 1) := by decide +kernel
theorem dL_law_860 : decode cL_law 860 = .ok (.iaload, 1) := by decide +kernel
theorem dL_law_861 : decode cL_law 861 = .ok (.invokevirtual 113, 3) := by decide +kernel
theorem dL_law_864 : decode cL_law 864 = .ok (.if_icmp .eq 384, 3) := by decide +kernel
theorem dL_law_867 : decode cL_law 867 = .ok (.iconst 0, 1) := by decide +kernel
theorem dL_law_868 : decode cL_law 868 = .ok (.ireturn, 1) := by decide +kernel
theorem dL_law_869 : decode cL_law 869 = .ok (.aload_n 1, 1) := by decide +kernel
theorem dL_law_870 : decode cL_law 870 = .ok (.aload_n 0, 1) := by decide +kernel
theorem dL_law_871 : decode cL_law 871 = .ok (.iload 4, 2) := by decide +kernel
theorem dL_law_873 : decode cL_law 873 = .ok (.iconst 1, 1) := by decide +kernel
theorem dL_law_874 : decode cL_law 874 = .ok (.iadd, 1) := by decide +kernel
theorem dL_law_875 : decode cL_law 875 = .ok (.iaload, 1) := by decide +kernel
theorem dL_law_876 : decode cL_law 876 = .ok (.aload_n 0, 1) := by decide +kernel
theorem dL_law_877 : decode cL_law 877 = .ok (.iload 4, 2) := by decide +kernel
theorem dL_law_879 : decode cL_law 879 = .ok (.iconst 2, 1) := by decide +kernel
theorem dL_law_880 : decode cL_law 880 = .ok (.iadd, 1) := by decide +kernel
theorem dL_law_881 : decode cL_law 881 = .ok (.iaload, 1) := by decide +kernel
theorem dL_law_882 : decode cL_law 882 = .ok (.aload_n 0, 1) := by decide +kernel
theorem dL_law_883 : decode cL_law 883 = .ok (.iload 4, 2) := by decide +kernel
theorem dL_law_885 : decode cL_law 885 = .ok (.iconst 3, 1) := by decide +kernel
theorem dL_law_886 : decode cL_law 886 = .ok (.iadd, 1) := by decide +kernel
theorem dL_law_887 : decode cL_law 887 = .ok (.iaload, 1) := by decide +kernel
theorem dL_law_888 : decode cL_law 888 = .ok (.aload_n 3, 1) := by decide +kernel
theorem dL_law_889 : decode cL_law 889 = .ok (.invokestatic 114, 3) := by decide +kernel
theorem dL_law_892 : decode cL_law 892 = .ok (.istore 5, 2) := by decide +kernel
theorem dL_law_894 : decode cL_law 894 = .ok (.aload_n 2, 1) := by decide +kernel
theorem dL_law_895 : decode cL_law 895 = .ok (.aload_n 0, 1) := by decide +kernel
theorem dL_law_896 : decode cL_law 896 = .ok (.iload 4, 2) := by decide +kernel
theorem dL_law_898 : decode cL_law 898 = .ok (.iconst 1, 1) := by decide +kernel
theorem dL_law_899 : decode cL_law 899 = .ok (.iadd, 1) := by decide +kernel
theorem dL_law_900 : decode cL_law 900 = .ok (.iaload, 1) := by decide +kernel
theorem dL_law_901 : decode cL_law 901 = .ok (.aload_n 0, 1) := by decide +kernel
theorem dL_law_902 : decode cL_law 902 = .ok (.iload 4, 2) := by decide +kernel
theorem dL_law_904 : decode cL_law 904 = .ok (.iconst 2, 1) := by decide +kernel
theorem dL_law_905 : decode cL_law 905 = .ok (.iadd, 1) := by decide +kernel
theorem dL_law_906 : decode cL_law 906 = .ok (.iaload, 1) := by decide +kernel
theorem dL_law_907 : decode cL_law 907 = .ok (.aload_n 0, 1) := by decide +kernel
theorem dL_law_908 : decode cL_law 908 = .ok (.iload 4, 2) := by decide +kernel
theorem dL_law_910 : decode cL_law 910 = .ok (.iconst 3, 1) := by decide +kernel
theorem dL_law_911 : decode cL_law 911 = .ok (.iadd, 1) := by decide +kernel
theorem dL_law_912 : decode cL_law 912 = .ok (.iaload, 1) := by decide +kernel
theorem dL_law_913 : decode cL_law 913 = .ok (.invokevirtual 117, 3) := by decide +kernel
theorem dL_law_916 : decode cL_law 916 = .ok (.lstore 6, 2) := by decide +kernel
theorem dL_law_918 : decode cL_law 918 = .ok (.aload_n 2, 1) := by decide +kernel
theorem dL_law_919 : decode cL_law 919 = .ok (.invokevirtual 79, 3) := by decide +kernel
theorem dL_law_922 : decode cL_law 922 = .ok (.iload 5, 2) := by decide +kernel
theorem dL_law_924 : decode cL_law 924 = .ok (.if_icmp .eq 5, 3) := by decide +kernel
theorem dL_law_927 : decode cL_law 927 = .ok (.iconst 0, 1) := by decide +kernel
theorem dL_law_928 : decode cL_law 928 = .ok (.ireturn, 1) := by decide +kernel
theorem dL_law_929 : decode cL_law 929 = .ok (.iload 5, 2) := by decide +kernel
theorem dL_law_931 : decode cL_law 931 = .ok (.ifCond .ne 14, 3) := by decide +kernel
theorem dL_law_934 : decode cL_law 934 = .ok (.aload_n 3, 1) := by decide +kernel
theorem dL_law_935 : decode cL_law 935 = .ok (.iconst 0, 1) := by decide +kernel
theorem dL_law_936 : decode cL_law 936 = .ok (.laload, 1) := by decide +kernel
theorem dL_law_937 : decode cL_law 937 = .ok (.lload 6, 2) := by decide +kernel
theorem dL_law_939 : decode cL_law 939 = .ok (.lcmp, 1) := by decide +kernel
theorem dL_law_940 : decode cL_law 940 = .ok (.ifCond .eq 5, 3) := by decide +kernel
theorem dL_law_943 : decode cL_law 943 = .ok (.iconst 0, 1) := by decide +kernel
theorem dL_law_944 : decode cL_law 944 = .ok (.ireturn, 1) := by decide +kernel
theorem dL_law_945 : decode cL_law 945 = .ok (.goto 303, 3) := by decide +kernel
theorem dL_law_948 : decode cL_law 948 = .ok (.aload_n 1, 1) := by decide +kernel
theorem dL_law_949 : decode cL_law 949 = .ok (.aload_n 0, 1) := by decide +kernel
theorem dL_law_950 : decode cL_law 950 = .ok (.iload 4, 2) := by decide +kernel
theorem dL_law_952 : decode cL_law 952 = .ok (.iconst 1, 1) := by decide +kernel
theorem dL_law_953 : decode cL_law 953 = .ok (.iadd, 1) := by decide +kernel
theorem dL_law_954 : decode cL_law 954 = .ok (.iaload, 1) := by decide +kernel
theorem dL_law_955 : decode cL_law 955 = .ok (.aload_n 0, 1) := by decide +kernel
theorem dL_law_956 : decode cL_law 956 = .ok (.iload 4, 2) := by decide +kernel
theorem dL_law_958 : decode cL_law 958 = .ok (.iconst 2, 1) := by decide +kernel
theorem dL_law_959 : decode cL_law 959 = .ok (.iadd, 1) := by decide +kernel
theorem dL_law_960 : decode cL_law 960 = .ok (.iaload, 1) := by decide +kernel
theorem dL_law_961 : decode cL_law 961 = .ok (.invokevirtual 118, 3) := by decide +kernel
theorem dL_law_964 : decode cL_law 964 = .ok (.aload_n 2, 1) := by decide +kernel
theorem dL_law_965 : decode cL_law 965 = .ok (.aload_n 0, 1) := by decide +kernel
theorem dL_law_966 : decode cL_law 966 = .ok (.iload 4, 2) := by decide +kernel
theorem dL_law_968 : decode cL_law 968 = .ok (.iconst 1, 1) := by decide +kernel
theorem dL_law_969 : decode cL_law 969 = .ok (.iadd, 1) := by decide +kernel
theorem dL_law_970 : decode cL_law 970 = .ok (.iaload, 1) := by decide +kernel
theorem dL_law_971 : decode cL_law 971 = .ok (.aload_n 0, 1) := by decide +kernel
theorem dL_law_972 : decode cL_law 972 = .ok (.iload 4, 2) := by decide +kernel
theorem dL_law_974 : decode cL_law 974 = .ok (.iconst 2, 1) := by decide +kernel
theorem dL_law_975 : decode cL_law 975 = .ok (.iadd, 1) := by decide +kernel
theorem dL_law_976 : decode cL_law 976 = .ok (.iaload, 1) := by decide +kernel
theorem dL_law_977 : decode cL_law 977 = .ok (.invokevirtual 121, 3) := by decide +kernel
theorem dL_law_980 : decode cL_law 980 = .ok (.if_icmp .eq 268, 3) := by decide +kernel
theorem dL_law_983 : decode cL_law 983 = .ok (.iconst 0, 1) := by decide +kernel
theorem dL_law_984 : decode cL_law 984 = .ok (.ireturn, 1) := by decide +kernel
theorem dL_law_985 : decode cL_law 985 = .ok (.aload_n 1, 1) := by decide +kernel
theorem dL_law_986 : decode cL_law 986 = .ok (.aload_n 0, 1) := by decide +kernel
theorem dL_law_987 : decode cL_law 987 = .ok (.iload 4, 2) := by decide +kernel
theorem dL_law_989 : decode cL_law 989 = .ok (.iconst 1, 1) := by decide +kernel
theorem dL_law_990 : decode cL_law 990 = .ok (.iadd, 1) := by decide +kernel
theorem dL_law_991 : decode cL_law 991 = .ok (.iaload, 1) := by decide +kernel
theorem dL_law_992 : decode cL_law 992 = .ok (.aload_n 0, 1) := by decide +kernel
theorem dL_law_993 : decode cL_law 993 = .ok (.iload 4, 2) := by decide +kernel
theorem dL_law_995 : decode cL_law 995 = .ok (.iconst 2, 1) := by decide +kernel
theorem dL_law_996 : decode cL_law 996 = .ok (.iadd, 1) := by decide +kernel
theorem dL_law_997 : decode cL_law 997 = .ok (.iaload, 1) := by decide +kernel
theorem dL_law_998 : decode cL_law 998 = .ok (.aload_n 0, 1) := by decide +kernel
theorem dL_law_999 : decode cL_law 999 = .ok (.iload 4, 2) := by decide +kernel
theorem dL_law_1001 : decode cL_law 1001 = .ok (.iconst 3, 1) := by decide +kernel
theorem dL_law_1002 : decode cL_law 1002 = .ok (.iadd, 1) := by decide +kernel
theorem dL_law_1003 : decode cL_law 1003 = .ok (.iaload, 1) := by decide +kernel
theorem dL_law_1004 : decode cL_law 1004 = .ok (.invokevirtual 122, 3) := by decide +kernel
theorem dL_law_1007 : decode cL_law 1007 = .ok (.aload_n 2, 1) := by decide +kernel
theorem dL_law_1008 : decode cL_law 1008 = .ok (.aload_n 0, 1) := by decide +kernel
theorem dL_law_1009 : decode cL_law 1009 = .ok (.iload 4, 2) := by decide +kernel
theorem dL_law_1011 : decode cL_law 1011 = .ok (.iconst 1, 1) := by decide +kernel
theorem dL_law_1012 : decode cL_law 1012 = .ok (.iadd, 1) := by decide +kernel
theorem dL_law_1013 : decode cL_law 1013 = .ok (.iaload, 1) := by decide +kernel
theorem dL_law_1014 : decode cL_law 1014 = .ok (.aload_n 0, 1) := by decide +kernel
theorem dL_law_1015 : decode cL_law 1015 = .ok (.iload 4, 2) := by decide +kernel
theorem dL_law_1017 : decode cL_law 1017 = .ok (.iconst 2, 1) := by decide +kernel
theorem dL_law_1018 : decode cL_law 1018 = .ok (.iadd, 1) := by decide +kernel
theorem dL_law_1019 : decode cL_law 1019 = .ok (.iaload, 1) := by decide +kernel
theorem dL_law_1020 : decode cL_law 1020 = .ok (.aload_n 0, 1) := by decide +kernel
theorem dL_law_1021 : decode cL_law 1021 = .ok (.iload 4, 2) := by decide +kernel
theorem dL_law_1023 : decode cL_law 1023 = .ok (.iconst 3, 1) := by decide +kernel
theorem dL_law_1024 : decode cL_law 1024 = .ok (.iadd, 1) := by decide +kernel
theorem dL_law_1025 : decode cL_law 1025 = .ok (.iaload, 1) := by decide +kernel
theorem dL_law_1026 : decode cL_law 1026 = .ok (.invokevirtual 125, 3) := by decide +kernel
theorem dL_law_1029 : decode cL_law 1029 = .ok (.lcmp, 1) := by decide +kernel
theorem dL_law_1030 : decode cL_law 1030 = .ok (.ifCond .eq 218, 3) := by decide +kernel
theorem dL_law_1033 : decode cL_law 1033 = .ok (.iconst 0, 1) := by decide +kernel
theorem dL_law_1034 : decode cL_law 1034 = .ok (.ireturn, 1) := by decide +kernel
theorem dL_law_1035 : decode cL_law 1035 = .ok (.aload_n 1, 1) := by decide +kernel
theorem dL_law_1036 : decode cL_law 1036 = .ok (.aload_n 0, 1) := by decide +kernel
theorem dL_law_1037 : decode cL_law 1037 = .ok (.iload 4, 2) := by decide +kernel
theorem dL_law_1039 : decode cL_law 1039 = .ok (.iconst 1, 1) := by decide +kernel
theorem dL_law_1040 : decode cL_law 1040 = .ok (.iadd, 1) := by decide +kernel
theorem dL_law_1041 : decode cL_law 1041 = .ok (.iaload, 1) := by decide +kernel
theorem dL_law_1042 : decode cL_law 1042 = .ok (.aload_n 0, 1) := by decide +kernel
theorem dL_law_1043 : decode cL_law 1043 = .ok (.iload 4, 2) := by decide +kernel
theorem dL_law_1045 : decode cL_law 1045 = .ok (.iconst 2, 1) := by decide +kernel
theorem dL_law_1046 : decode cL_law 1046 = .ok (.iadd, 1) := by decide +kernel
theorem dL_law_1047 : decode cL_law 1047 = .ok (.iaload, 1) := by decide +kernel
theorem dL_law_1048 : decode cL_law 1048 = .ok (.aload_n 0, 1) := by decide +kernel
theorem dL_law_1049 : decode cL_law 1049 = .ok (.iload 4, 2) := by decide +kernel
theorem dL_law_1051 : decode cL_law 1051 = .ok (.iconst 3, 1) := by decide +kernel
theorem dL_law_1052 : decode cL_law 1052 = .ok (.iadd, 1) := by decide +kernel
theorem dL_law_1053 : decode cL_law 1053 = .ok (.iaload, 1) := by decide +kernel
theorem dL_law_1054 : decode cL_law 1054 = .ok (.aload_n 0, 1) := by decide +kernel
theorem dL_law_1055 : decode cL_law 1055 = .ok (.iload 4, 2) := by decide +kernel
theorem dL_law_1057 : decode cL_law 1057 = .ok (.iconst 4, 1) := by decide +kernel
theorem dL_law_1058 : decode cL_law 1058 = .ok (.iadd, 1) := by decide +kernel
theorem dL_law_1059 : decode cL_law 1059 = .ok (.iaload, 1) := by decide +kernel
theorem dL_law_1060 : decode cL_law 1060 = .ok (.invokevirtual 126, 3) := by decide +kernel
theorem dL_law_1063 : decode cL_law 1063 = .ok (.aload_n 2, 1) := by decide +kernel
theorem dL_law_1064 : decode cL_law 1064 = .ok (.aload_n 0, 1) := by decide +kernel
theorem dL_law_1065 : decode cL_law 1065 = .ok (.iload 4, 2) := by decide +kernel
theorem dL_law_1067 : decode cL_law 1067 = .ok (.iconst 1, 1) := by decide +kernel
theorem dL_law_1068 : decode cL_law 1068 = .ok (.iadd, 1) := by decide +kernel
theorem dL_law_1069 : decode cL_law 1069 = .ok (.iaload, 1) := by decide +kernel
theorem dL_law_1070 : decode cL_law 1070 = .ok (.aload_n 0, 1) := by decide +kernel
theorem dL_law_1071 : decode cL_law 1071 = .ok (.iload 4, 2) := by decide +kernel
theorem dL_law_1073 : decode cL_law 1073 = .ok (.iconst 2, 1) := by decide +kernel
theorem dL_law_1074 : decode cL_law 1074 = .ok (.iadd, 1) := by decide +kernel
theorem dL_law_1075 : decode cL_law 1075 = .ok (.iaload, 1) := by decide +kernel
theorem dL_law_1076 : decode cL_law 1076 = .ok (.aload_n 0, 1) := by decide +kernel
theorem dL_law_1077 : decode cL_law 1077 = .ok (.iload 4, 2) := by decide +kernel
theorem dL_law_1079 : decode cL_law 1079 = .ok (.iconst 3, 1) := by decide +kernel
theorem dL_law_1080 : decode cL_law 1080 = .ok (.iadd, 1) := by decide +kernel
theorem dL_law_1081 : decode cL_law 1081 = .ok (.iaload, 1) := by decide +kernel
theorem dL_law_1082 : decode cL_law 1082 = .ok (.aload_n 0, 1) := by decide +kernel
theorem dL_law_1083 : decode cL_law 1083 = .ok (.iload 4, 2) := by decide +kernel
theorem dL_law_1085 : decode cL_law 1085 = .ok (.iconst 4, 1) := by decide +kernel
theorem dL_law_1086 : decode cL_law 1086 = .ok (.iadd, 1) := by decide +kernel
theorem dL_law_1087 : decode cL_law 1087 = .ok (.iaload, 1) := by decide +kernel
theorem dL_law_1088 : decode cL_law 1088 = .ok (.invokevirtual 130, 3) := by decide +kernel
theorem dL_law_1091 : decode cL_law 1091 = .ok (.if_icmp .eq 157, 3) := by decide +kernel
theorem dL_law_1094 : decode cL_law 1094 = .ok (.iconst 0, 1) := by decide +kernel
theorem dL_law_1095 : decode cL_law 1095 = .ok (.ireturn, 1) := by decide +kernel
theorem dL_law_1096 : decode cL_law 1096 = .ok (.aload_n 1, 1) := by decide +kernel
theorem dL_law_1097 : decode cL_law 1097 = .ok (.aload_n 0, 1) := by decide +kernel
theorem dL_law_1098 : decode cL_law 1098 = .ok (.iload 4, 2) := by decide +kernel
theorem dL_law_1100 : decode cL_law 1100 = .ok (.iconst 1, 1) := by decide +kernel
theorem dL_law_1101 : decode cL_law 1101 = .ok (.iadd, 1) := by decide +kernel
theorem dL_law_1102 : decode cL_law 1102 = .ok (.iaload, 1) := by decide +kernel
theorem dL_law_1103 : decode cL_law 1103 = .ok (.aload_n 0, 1) := by decide +kernel
theorem dL_law_1104 : decode cL_law 1104 = .ok (.iload 4, 2) := by decide +kernel
theorem dL_law_1106 : decode cL_law 1106 = .ok (.iconst 2, 1) := by decide +kernel
theorem dL_law_1107 : decode cL_law 1107 = .ok (.iadd, 1) := by decide +kernel
theorem dL_law_1108 : decode cL_law 1108 = .ok (.iaload, 1) := by decide +kernel
theorem dL_law_1109 : decode cL_law 1109 = .ok (.aload_n 0, 1) := by decide +kernel
theorem dL_law_1110 : decode cL_law 1110 = .ok (.iload 4, 2) := by decide +kernel
theorem dL_law_1112 : decode cL_law 1112 = .ok (.iconst 3, 1) := by decide +kernel
theorem dL_law_1113 : decode cL_law 1113 = .ok (.iadd, 1) := by decide +kernel
theorem dL_law_1114 : decode cL_law 1114 = .ok (.iaload, 1) := by decide +kernel
theorem dL_law_1115 : decode cL_law 1115 = .ok (.invokevirtual 131, 3) := by decide +kernel
theorem dL_law_1118 : decode cL_law 1118 = .ok (.aload_n 2, 1) := by decide +kernel
theorem dL_law_1119 : decode cL_law 1119 = .ok (.aload_n 0, 1) := by decide +kernel
theorem dL_law_1120 : decode cL_law 1120 = .ok (.iload 4, 2) := by decide +kernel
theorem dL_law_1122 : decode cL_law 1122 = .ok (.iconst 1, 1) := by decide +kernel
theorem dL_law_1123 : decode cL_law 1123 = .ok (.iadd, 1) := by decide +kernel
theorem dL_law_1124 : decode cL_law 1124 = .ok (.iaload, 1) := by decide +kernel
theorem dL_law_1125 : decode cL_law 1125 = .ok (.aload_n 0, 1) := by decide +kernel
theorem dL_law_1126 : decode cL_law 1126 = .ok (.iload 4, 2) := by decide +kernel
theorem dL_law_1128 : decode cL_law 1128 = .ok (.iconst 2, 1) := by decide +kernel
theorem dL_law_1129 : decode cL_law 1129 = .ok (.iadd, 1) := by decide +kernel
theorem dL_law_1130 : decode cL_law 1130 = .ok (.iaload, 1) := by decide +kernel
theorem dL_law_1131 : decode cL_law 1131 = .ok (.aload_n 0, 1) := by decide +kernel
theorem dL_law_1132 : decode cL_law 1132 = .ok (.iload 4, 2) := by decide +kernel
theorem dL_law_1134 : decode cL_law 1134 = .ok (.iconst 3, 1) := by decide +kernel
theorem dL_law_1135 : decode cL_law 1135 = .ok (.iadd, 1) := by decide +kernel
theorem dL_law_1136 : decode cL_law 1136 = .ok (.iaload, 1) := by decide +kernel
theorem dL_law_1137 : decode cL_law 1137 = .ok (.invokevirtual 135, 3) := by decide +kernel
theorem dL_law_1140 : decode cL_law 1140 = .ok (.if_icmp .eq 108, 3) := by decide +kernel
theorem dL_law_1143 : decode cL_law 1143 = .ok (.iconst 0, 1) := by decide +kernel
theorem dL_law_1144 : decode cL_law 1144 = .ok (.ireturn, 1) := by decide +kernel
theorem dL_law_1145 : decode cL_law 1145 = .ok (.aload_n 1, 1) := by decide +kernel
theorem dL_law_1146 : decode cL_law 1146 = .ok (.aload_n 0, 1) := by decide +kernel
theorem dL_law_1147 : decode cL_law 1147 = .ok (.iload 4, 2) := by decide +kernel
theorem dL_law_1149 : decode cL_law 1149 = .ok (.iconst 1, 1) := by decide +kernel
theorem dL_law_1150 : decode cL_law 1150 = .ok (.iadd, 1) := by decide +kernel
theorem dL_law_1151 : decode cL_law 1151 = .ok (.iaload, 1) := by decide +kernel
theorem dL_law_1152 : decode cL_law 1152 = .ok (.aload_n 0, 1) := by decide +kernel
theorem dL_law_1153 : decode cL_law 1153 = .ok (.iload 4, 2) := by decide +kernel
theorem dL_law_1155 : decode cL_law 1155 = .ok (.iconst 2, 1) := by decide +kernel
theorem dL_law_1156 : decode cL_law 1156 = .ok (.iadd, 1) := by decide +kernel
theorem dL_law_1157 : decode cL_law 1157 = .ok (.iaload, 1) := by decide +kernel
theorem dL_law_1158 : decode cL_law 1158 = .ok (.aload_n 0, 1) := by decide +kernel
theorem dL_law_1159 : decode cL_law 1159 = .ok (.iload 4, 2) := by decide +kernel
theorem dL_law_1161 : decode cL_law 1161 = .ok (.iconst 3, 1) := by decide +kernel
theorem dL_law_1162 : decode cL_law 1162 = .ok (.iadd, 1) := by decide +kernel
theorem dL_law_1163 : decode cL_law 1163 = .ok (.iaload, 1) := by decide +kernel
theorem dL_law_1164 : decode cL_law 1164 = .ok (.ifCond .eq 7, 3) := by decide +kernel
theorem dL_law_1167 : decode cL_law 1167 = .ok (.iconst 1, 1) := by decide +kernel
theorem dL_law_1168 : decode cL_law 1168 = .ok (.goto 4, 3) := by decide +kernel
theorem dL_law_1171 : decode cL_law 1171 = .ok (.iconst 0, 1) := by decide +kernel
theorem dL_law_1172 : decode cL_law 1172 = .ok (.invokevirtual 136, 3) := by decide +kernel
theorem dL_law_1175 : decode cL_law 1175 = .ok (.aload_n 2, 1) := by decide +kernel
theorem dL_law_1176 : decode cL_law 1176 = .ok (.aload_n 0, 1) := by decide +kernel
theorem dL_law_1177 : decode cL_law 1177 = .ok (.iload 4, 2) := by decide +kernel
theorem dL_law_1179 : decode cL_law 1179 = .ok (.iconst 1, 1) := by decide +kernel
theorem dL_law_1180 : decode cL_law 1180 = .ok (.iadd, 1) := by decide +kernel
theorem dL_law_1181 : decode cL_law 1181 = .ok (.iaload, 1) := by decide +kernel
theorem dL_law_1182 : decode cL_law 1182 = .ok (.aload_n 0, 1) := by decide +kernel
theorem dL_law_1183 : decode cL_law 1183 = .ok (.iload 4, 2) := by decide +kernel
theorem dL_law_1185 : decode cL_law 1185 = .ok (.iconst 2, 1) := by decide +kernel
theorem dL_law_1186 : decode cL_law 1186 = .ok (.iadd, 1) := by decide +kernel
theorem dL_law_1187 : decode cL_law 1187 = .ok (.iaload, 1) := by decide +kernel
theorem dL_law_1188 : decode cL_law 1188 = .ok (.aload_n 0, 1) := by decide +kernel
theorem dL_law_1189 : decode cL_law 1189 = .ok (.iload 4, 2) := by decide +kernel
theorem dL_law_1191 : decode cL_law 1191 = .ok (.iconst 3, 1) := by decide +kernel
theorem dL_law_1192 : decode cL_law 1192 = .ok (.iadd, 1) := by decide +kernel
theorem dL_law_1193 : decode cL_law 1193 = .ok (.iaload, 1) := by decide +kernel
theorem dL_law_1194 : decode cL_law 1194 = .ok (.ifCond .eq 7, 3) := by decide +kernel
theorem dL_law_1197 : decode cL_law 1197 = .ok (.iconst 1, 1) := by decide +kernel
theorem dL_law_1198 : decode cL_law 1198 = .ok (.goto 4, 3) := by decide +kernel
theorem dL_law_1201 : decode cL_law 1201 = .ok (.iconst 0, 1) := by decide +kernel
theorem dL_law_1202 : decode cL_law 1202 = .ok (.invokevirtual 140, 3) := by decide +kernel
theorem dL_law_1205 : decode cL_law 1205 = .ok (.if_icmp .eq 43, 3) := by decide +kernel
theorem dL_law_1208 : decode cL_law 1208 = .ok (.iconst 0, 1) := by decide +kernel
theorem dL_law_1209 : decode cL_law 1209 = .ok (.ireturn, 1) := by decide +kernel
theorem dL_law_1210 : decode cL_law 1210 = .ok (.aload_n 1, 1) := by decide +kernel
theorem dL_law_1211 : decode cL_law 1211 = .ok (.aload_n 0, 1) := by decide +kernel
theorem dL_law_1212 : decode cL_law 1212 = .ok (.iload 4, 2) := by decide +kernel
theorem dL_law_1214 : decode cL_law 1214 = .ok (.iconst 1, 1) := by decide +kernel
theorem dL_law_1215 : decode cL_law 1215 = .ok (.iadd, 1) := by decide +kernel
theorem dL_law_1216 : decode cL_law 1216 = .ok (.iaload, 1) := by decide +kernel
theorem dL_law_1217 : decode cL_law 1217 = .ok (.invokevirtual 141, 3) := by decide +kernel
theorem dL_law_1220 : decode cL_law 1220 = .ok (.aload_n 2, 1) := by decide +kernel
theorem dL_law_1221 : decode cL_law 1221 = .ok (.aload_n 0, 1) := by decide +kernel
theorem dL_law_1222 : decode cL_law 1222 = .ok (.iload 4, 2) := by decide +kernel
theorem dL_law_1224 : decode cL_law 1224 = .ok (.iconst 1, 1) := by decide +kernel
theorem dL_law_1225 : decode cL_law 1225 = .ok (.iadd, 1) := by decide +kernel
theorem dL_law_1226 : decode cL_law 1226 = .ok (.iaload, 1) := by decide +kernel
theorem dL_law_1227 : decode cL_law 1227 = .ok (.invokevirtual 144, 3) := by decide +kernel
theorem dL_law_1230 : decode cL_law 1230 = .ok (.if_icmp .eq 18, 3) := by decide +kernel
theorem dL_law_1233 : decode cL_law 1233 = .ok (.iconst 0, 1) := by decide +kernel
theorem dL_law_1234 : decode cL_law 1234 = .ok (.ireturn, 1) := by decide +kernel
theorem dL_law_1235 : decode cL_law 1235 = .ok (.aload_n 1, 1) := by decide +kernel
theorem dL_law_1236 : decode cL_law 1236 = .ok (.invokevirtual 145, 3) := by decide +kernel
theorem dL_law_1239 : decode cL_law 1239 = .ok (.aload_n 2, 1) := by decide +kernel
theorem dL_law_1240 : decode cL_law 1240 = .ok (.invokevirtual 148, 3) := by decide +kernel
theorem dL_law_1243 : decode cL_law 1243 = .ok (.if_icmp .eq 5, 3) := by decide +kernel
theorem dL_law_1246 : decode cL_law 1246 = .ok (.iconst 0, 1) := by decide +kernel
theorem dL_law_1247 : decode cL_law 1247 = .ok (.ireturn, 1) := by decide +kernel
theorem dL_law_1248 : decode cL_law 1248 = .ok (.iinc 4 6, 3) := by decide +kernel
theorem dL_law_1251 : decode cL_law 1251 = .ok (.goto (-1228), 3) := by decide +kernel
theorem dL_law_1254 : decode cL_law 1254 = .ok (.iconst 1, 1) := by decide +kernel
theorem dL_law_1255 : decode cL_law 1255 = .ok (.ireturn, 1) := by decide +kernel
