theorem dX7_tick_9 : decode cX7_tick 9 = .ok (.getfield 165, 3) := by decide +kernel
theorem dX7_tick_12 : decode cX7_tick 12 = .ok (.ifCond .ne 10, 3) := by decide +kernel
theorem dX7_tick_15 : decode cX7_tick 15 = .ok (.aload_n 0, 1) := by decide +kernel
theorem dX7_tick_16 : decode cX7_tick 16 = .ok (.bipush (-3), 2) := by decide +kernel
theorem dX7_tick_18 : decode cX7_tick 18 = .ok (.invokevirtual 43, 3) := by decide +kernel
theorem dX7_tick_21 : decode cX7_tick 21 = .ok (.ireturn, 1) := by decide +kernel
theorem dX7_tick_22 : decode cX7_tick 22 = .ok (.iload_n 1, 1) := by decide +kernel
theorem dX7_tick_23 : decode cX7_tick 23 = .ok (.iconst 1, 1) := by decide +kernel
theorem dX7_tick_24 : decode cX7_tick 24 = .ok (.if_icmp .ge 10, 3) := by decide +kernel
theorem dX7_tick_27 : decode cX7_tick 27 = .ok (.aload_n 0, 1) := by decide +kernel
theorem dX7_tick_28 : decode cX7_tick 28 = .ok (.bipush (-4), 2) := by decide +kernel
theorem dX7_tick_30 : decode cX7_tick 30 = .ok (.invokevirtual 43, 3) := by decide +kernel
theorem dX7_tick_33 : decode cX7_tick 33 = .ok (.ireturn, 1) := by decide +kernel
theorem dX7_tick_34 : decode cX7_tick 34 = .ok (.iload_n 1, 1) := by decide +kernel
theorem dX7_tick_35 : decode cX7_tick 35 = .ok (.sipush 999, 3) := by decide +kernel
theorem dX7_tick_38 : decode cX7_tick 38 = .ok (.if_icmp .le 10, 3) := by decide +kernel
theorem dX7_tick_41 : decode cX7_tick 41 = .ok (.aload_n 0, 1) := by decide +kernel
theorem dX7_tick_42 : decode cX7_tick 42 = .ok (.bipush (-6), 2) := by decide +kernel
theorem dX7_tick_44 : decode cX7_tick 44 = .ok (.invokevirtual 43, 3) := by decide +kernel
theorem dX7_tick_47 : decode cX7_tick 47 = .ok (.ireturn, 1) := by decide +kernel
theorem dX7_tick_48 : decode cX7_tick 48 = .ok (.aload_n 0, 1) := by decide +kernel
theorem dX7_tick_49 : decode cX7_tick 49 = .ok (.getfield 35, 3) := by decide +kernel
theorem dX7_tick_52 : decode cX7_tick 52 = .ok (.aload_n 0, 1) := by decide +kernel
theorem dX7_tick_53 : decode cX7_tick 53 = .ok (.getfield 23, 3) := by decide +kernel
theorem dX7_tick_56 : decode cX7_tick 56 = .ok (.aload_n 2, 1) := by decide +kernel
theorem dX7_tick_57 : decode cX7_tick 57 = .ok (.getfield 168, 3) := by decide +kernel
theorem dX7_tick_60 : decode cX7_tick 60 = .ok (.invokevirtual 69, 3) := by decide +kernel
theorem dX7_tick_63 : decode cX7_tick 63 = .ok (.aload_n 2, 1) := by decide +kernel
theorem dX7_tick_64 : decode cX7_tick 64 = .ok (.getfield 171, 3) := by decide +kernel
theorem dX7_tick_67 : decode cX7_tick 67 = .ok (.aload_n 2, 1) := by decide +kernel
theorem dX7_tick_68 : decode cX7_tick 68 = .ok (.getfield 174, 3) := by decide +kernel
theorem dX7_tick_71 : decode cX7_tick 71 = .ok (.invokevirtual 151, 3) := by decide +kernel
theorem dX7_tick_74 : decode cX7_tick 74 = .ok (.aload_n 0, 1) := by decide +kernel
theorem dX7_tick_75 : decode cX7_tick 75 = .ok (.getfield 35, 3) := by decide +kernel
theorem dX7_tick_78 : decode cX7_tick 78 = .ok (.aload_n 2, 1) := by decide +kernel
theorem dX7_tick_79 : decode cX7_tick 79 = .ok (.getfield 177, 3) := by decide +kernel
theorem dX7_tick_82 : decode cX7_tick 82 = .ok (.putfield 155, 3) := by decide +kernel
theorem dX7_tick_85 : decode cX7_tick 85 = .ok (.iconst 0, 1) := by decide +kernel
theorem dX7_tick_86 : decode cX7_tick 86 = .ok (.istore_n 3, 1) := by decide +kernel
theorem dX7_tick_87 : decode cX7_tick 87 = .ok (.iload_n 3, 1) := by decide +kernel
theorem dX7_tick_88 : decode cX7_tick 88 = .ok (.iload_n 1, 1) := by decide +kernel
theorem dX7_tick_89 : decode cX7_tick 89 = .ok (.if_icmp .ge 31, 3) := by decide +kernel
theorem dX7_tick_92 : decode cX7_tick 92 = .ok (.aload_n 2, 1) := by decide +kernel
theorem dX7_tick_93 : decode cX7_tick 93 = .ok (.getfield 178, 3) := by decide +kernel
theorem dX7_tick_96 : decode cX7_tick 96 = .ok (.ifCond .ne 24, 3) := by decide +kernel
theorem dX7_tick_99 : decode cX7_tick 99 = .ok (.aload_n 0, 1) := by decide +kernel
theorem dX7_tick_100 : decode cX7_tick 100 = .ok (.getfield 35, 3) := by decide +kernel
theorem dX7_tick_103 : decode cX7_tick 103 = .ok (.invokevirtual 181, 3) := by decide +kernel
theorem dX7_tick_106 : decode cX7_tick 106 = .ok (.aload_n 2, 1) := by decide +kernel
theorem dX7_tick_107 : decode cX7_tick 107 = .ok (.aload_n 0, 1) := by decide +kernel
theorem dX7_tick_108 : decode cX7_tick 108 = .ok (.getfield 35, 3) := by decide +kernel
theorem dX7_tick_111 : decode cX7_tick 111 = .ok (.invokevirtual 184, 3) := by decide +kernel
theorem dX7_tick_114 : decode cX7_tick 114 = .ok (.iinc 3 1, 3) := by decide +kernel
theorem dX7_tick_117 : decode cX7_tick 117 = .ok (.goto (-30), 3) := by decide +kernel
theorem dX7_tick_120 : decode cX7_tick 120 = .ok (.aload_n 2, 1) := by decide +kernel
theorem dX7_tick_121 : decode cX7_tick 121 = .ok (.getfield 178, 3) := by decide +kernel
theorem dX7_tick_124 : decode cX7_tick 124 = .ok (.ireturn, 1) := by decide +kernel
theorem dX7_state_0 : decode cX7_state 0 = .ok (.aload_n 0, 1) := by decide +kernel
theorem dX7_state_1 : decode cX7_state 1 = .ok (.getfield 23, 3) := by decide +kernel
theorem dX7_state_4 : decode cX7_state 4 = .ok (.getfield 119, 3) := by decide +kernel
theorem dX7_state_7 : decode cX7_state 7 = .ok (.astore_n 2, 1) := by decide +kernel
theorem dX7_state_8 : decode cX7_state 8 = .ok (.aload_n 2, 1) := by decide +kernel
theorem dX7_state_9 : decode cX7_state 9 = .ok (.getfield 165, 3) := by decide +kernel
theorem dX7_state_12 : decode cX7_state 12 = .ok (.ifCond .ne 10, 3) := by decide +kernel
theorem dX7_state_15 : decode cX7_state 15 = .ok (.aload_n 0, 1) := by decide +kernel
theorem dX7_state_16 : decode cX7_state 16 = .ok (.bipush (-3), 2) := by decide +kernel
theorem dX7_state_18 : decode cX7_state 18 = .ok (.invokevirtual 43, 3) := by decide +kernel
theorem dX7_state_21 : decode cX7_state 21 = .ok (.ireturn, 1) := by decide +kernel
theorem dX7_state_22 : decode cX7_state 22 = .ok (.iload_n 1, 1) := by decide +kernel
theorem dX7_state_23 : decode cX7_state 23 = .ok (.tableswitch 76 0 6 #[41, 46, 51, 56, 61, 66, 71], 41) := by decide +kernel
theorem dX7_state_64 : decode cX7_state 64 = .ok (.aload_n 2, 1) := by decide +kernel
theorem dX7_state_65 : decode cX7_state 65 = .ok (.getfield 168, 3) := by decide +kernel
theorem dX7_state_68 : decode cX7_state 68 = .ok (.ireturn, 1) := by decide +kernel
theorem dX7_state_69 : decode cX7_state 69 = .ok (.aload_n 2, 1) := by decide +kernel
theorem dX7_state_70 : decode cX7_state 70 = .ok (.getfield 171, 3) := by decide +kernel
theorem dX7_state_73 : decode cX7_state 73 = .ok (.ireturn, 1) := by decide +kernel
theorem dX7_state_74 : decode cX7_state 74 = .ok (.aload_n 2, 1) := by decide +kernel
theorem dX7_state_75 : decode cX7_state 75 = .ok (.getfield 188, 3) := by decide +kernel
theorem dX7_state_78 : decode cX7_state 78 = .ok (.ireturn, 1) := by decide +kernel
theorem dX7_state_79 : decode cX7_state 79 = .ok (.aload_n 2, 1) := by decide +kernel
theorem dX7_state_80 : decode cX7_state 80 = .ok (.getfield 177, 3) := by decide +kernel
theorem dX7_state_83 : decode cX7_state 83 = .ok (.ireturn, 1) := by decide +kernel
theorem dX7_state_84 : decode cX7_state 84 = .ok (.aload_n 2, 1) := by decide +kernel
theorem dX7_state_85 : decode cX7_state 85 = .ok (.getfield 178, 3) := by decide +kernel
theorem dX7_state_88 : decode cX7_state 88 = .ok (.ireturn, 1) := by decide +kernel
theorem dX7_state_89 : decode cX7_state 89 = .ok (.aload_n 2, 1) := by decide +kernel
theorem dX7_state_90 : decode cX7_state 90 = .ok (.getfield 174, 3) := by decide +kernel
theorem dX7_state_93 : decode cX7_state 93 = .ok (.ireturn, 1) := by decide +kernel
theorem dX7_state_94 : decode cX7_state 94 = .ok (.aload_n 2, 1) := by decide +kernel
theorem dX7_state_95 : decode cX7_state 95 = .ok (.getfield 191, 3) := by decide +kernel
theorem dX7_state_98 : decode cX7_state 98 = .ok (.ireturn, 1) := by decide +kernel
theorem dX7_state_99 : decode cX7_state 99 = .ok (.aload_n 0, 1) := by decide +kernel
theorem dX7_state_100 : decode cX7_state 100 = .ok (.bipush (-2), 2) := by decide +kernel
theorem dX7_state_102 : decode cX7_state 102 = .ok (.invokevirtual 43, 3) := by decide +kernel
theorem dX7_state_105 : decode cX7_state 105 = .ok (.ireturn, 1) := by decide +kernel
theorem dX7_rolled_0 : decode cX7_rolled 0 = .ok (.aload_n 0, 1) := by decide +kernel
theorem dX7_rolled_1 : decode cX7_rolled 1 = .ok (.getfield 23, 3) := by decide +kernel
theorem dX7_rolled_4 : decode cX7_rolled 4 = .ok (.getfield 119, 3) := by decide +kernel
theorem dX7_rolled_7 : decode cX7_rolled 7 = .ok (.getfield 165, 3) := by decide +kernel
theorem dX7_rolled_10 : decode cX7_rolled 10 = .ok (.ifCond .eq 16, 3) := by decide +kernel
theorem dX7_rolled_13 : decode cX7_rolled 13 = .ok (.aload_n 0, 1) := by decide +kernel
theorem dX7_rolled_14 : decode cX7_rolled 14 = .ok (.getfield 23, 3) := by decide +kernel
theorem dX7_rolled_17 : decode cX7_rolled 17 = .ok (.getfield 119, 3) := by decide +kernel
theorem dX7_rolled_20 : decode cX7_rolled 20 = .ok (.getfield 194, 3) := by decide +kernel
theorem dX7_rolled_23 : decode cX7_rolled 23 = .ok (.goto 10, 3) := by decide +kernel
theorem dX7_rolled_26 : decode cX7_rolled 26 = .ok (.aload_n 0, 1) := by decide +kernel
theorem dX7_rolled_27 : decode cX7_rolled 27 = .ok (.bipush (-3), 2) := by decide +kernel
theorem dX7_rolled_29 : decode cX7_rolled 29 = .ok (.invokevirtual 43, 3) := by decide +kernel
theorem dX7_rolled_32 : decode cX7_rolled 32 = .ok (.i2l, 1) := by decide +kernel
theorem dX7_rolled_33 : decode cX7_rolled 33 = .ok (.lreturn, 1) := by decide +kernel
theorem dX7_tenth_0 : decode cX7_tenth 0 = .ok (.iload_n 2, 1) := by decide +kernel
theorem dX7_tenth_1 : decode cX7_tenth 1 = .ok (.invokestatic 132, 3) := by decide +kernel
theorem dX7_tenth_4 : decode cX7_tenth 4 = .ok (.ifCond .ne 10, 3) := by decide +kernel
theorem dX7_tenth_7 : decode cX7_tenth 7 = .ok (.aload_n 0, 1) := by decide +kernel
theorem dX7_tenth_8 : decode cX7_tenth 8 = .ok (.bipush (-2), 2) := by decide +kernel
theorem dX7_tenth_10 : decode cX7_tenth 10 = .ok (.invokevirtual 43, 3) := by decide +kernel
theorem dX7_tenth_13 : decode cX7_tenth 13 = .ok (.ireturn, 1) := by decide +kernel
theorem dX7_tenth_14 : decode cX7_tenth 14 = .ok (.aload_n 0, 1) := by decide +kernel
theorem dX7_tenth_15 : decode cX7_tenth 15 = .ok (.getfield 23, 3) := by decide +kernel
theorem dX7_tenth_18 : decode cX7_tenth 18 = .ok (.getfield 119, 3) := by decide +kernel
theorem dX7_tenth_21 : decode cX7_tenth 21 = .ok (.getfield 165, 3) := by decide +kernel
theorem dX7_tenth_24 : decode cX7_tenth 24 = .ok (.ifCond .ne 10, 3) := by decide +kernel
theorem dX7_tenth_27 : decode cX7_tenth 27 = .ok (.aload_n 0, 1) := by decide +kernel
theorem dX7_tenth_28 : decode cX7_tenth 28 = .ok (.bipush (-3), 2) := by decide +kernel
theorem dX7_tenth_30 : decode cX7_tenth 30 = .ok (.invokevirtual 43, 3) := by decide +kernel
theorem dX7_tenth_33 : decode cX7_tenth 33 = .ok (.ireturn, 1) := by decide +kernel
theorem dX7_tenth_34 : decode cX7_tenth 34 = .ok (.iload_n 1, 1) := by decide +kernel
theorem dX7_tenth_35 : decode cX7_tenth 35 = .ok (.ifCond .ge 10, 3) := by decide +kernel
theorem dX7_tenth_38 : decode cX7_tenth 38 = .ok (.aload_n 0, 1) := by decide +kernel
theorem dX7_tenth_39 : decode cX7_tenth 39 = .ok (.bipush (-4), 2) := by decide +kernel
theorem dX7_tenth_41 : decode cX7_tenth 41 = .ok (.invokevirtual 43, 3) := by decide +kernel
theorem dX7_tenth_44 : decode cX7_tenth 44 = .ok (.ireturn, 1) := by decide +kernel
theorem dX7_tenth_45 : decode cX7_tenth 45 = .ok (.aload_n 0, 1) := by decide +kernel
theorem dX7_tenth_46 : decode cX7_tenth 46 = .ok (.getfield 23, 3) := by decide +kernel
theorem dX7_tenth_49 : decode cX7_tenth 49 = .ok (.getfield 119, 3) := by decide +kernel
theorem dX7_tenth_52 : decode cX7_tenth 52 = .ok (.iload_n 1, 1) := by decide +kernel
theorem dX7_tenth_53 : decode cX7_tenth 53 = .ok (.iload_n 2, 1) := by decide +kernel
theorem dX7_tenth_54 : decode cX7_tenth 54 = .ok (.invokevirtual 198, 3) := by decide +kernel
theorem dX7_tenth_57 : decode cX7_tenth 57 = .ok (.ireturn, 1) := by decide +kernel
theorem dX7_lasts_0 : decode cX7_lasts 0 = .ok (.aload_n 0, 1) := by decide +kernel
theorem dX7_lasts_1 : decode cX7_lasts 1 = .ok (.getfield 23, 3) := by decide +kernel
theorem dX7_lasts_4 : decode cX7_lasts 4 = .ok (.iload_n 1, 1) := by decide +kernel
theorem dX7_lasts_5 : decode cX7_lasts 5 = .ok (.invokevirtual 69, 3) := by decide +kernel
theorem dX7_lasts_8 : decode cX7_lasts 8 = .ok (.astore 5, 2) := by decide +kernel
theorem dX7_lasts_10 : decode cX7_lasts 10 = .ok (.aload 5, 2) := by decide +kernel
theorem dX7_lasts_12 : decode cX7_lasts 12 = .ok (.ifnull 10, 3) := by decide +kernel
theorem dX7_lasts_15 : decode cX7_lasts 15 = .ok (.iload_n 3, 1) := by decide +kernel
theorem dX7_lasts_16 : decode cX7_lasts 16 = .ok (.invokestatic 128, 3) := by decide +kernel
theorem dX7_lasts_19 : decode cX7_lasts 19 = .ok (.ifCond .ne 9, 3) := by decide +kernel
theorem dX7_lasts_22 : decode cX7_lasts 22 = .ok (.aload_n 0, 1) := by decide +kernel
theorem dX7_lasts_23 : decode cX7_lasts 23 = .ok (.iconst (-1), 1) := by decide +kernel
theorem dX7_lasts_24 : decode cX7_lasts 24 = .ok (.invokevirtual 43, 3) := by decide +kernel
theorem dX7_lasts_27 : decode cX7_lasts 27 = .ok (.ireturn, 1) := by decide +kernel
theorem dX7_lasts_28 : decode cX7_lasts 28 = .ok (.iload 4, 2) := by decide +kernel
theorem dX7_lasts_30 : decode cX7_lasts 30 = .ok (.invokestatic 132, 3) := by decide +kernel
theorem dX7_lasts_33 : decode cX7_lasts 33 = .ok (.ifCond .ne 10, 3) := by decide +kernel
theorem dX7_lasts_36 : decode cX7_lasts 36 = .ok (.aload_n 0, 1) := by decide +kernel
theorem dX7_lasts_37 : decode cX7_lasts 37 = .ok (.bipush (-2), 2) := by decide +kernel
theorem dX7_lasts_39 : decode cX7_lasts 39 = .ok (.invokevirtual 43, 3) := by decide +kernel
theorem dX7_lasts_42 : decode cX7_lasts 42 = .ok (.ireturn, 1) := by decide +kernel
theorem dX7_lasts_43 : decode cX7_lasts 43 = .ok (.iload_n 2, 1) := by decide +kernel
theorem dX7_lasts_44 : decode cX7_lasts 44 = .ok (.invokestatic 144, 3) := by decide +kernel
theorem dX7_lasts_47 : decode cX7_lasts 47 = .ok (.istore 6, 2) := by decide +kernel
theorem dX7_lasts_49 : decode cX7_lasts 49 = .ok (.iload 6, 2) := by decide +kernel
theorem dX7_lasts_51 : decode cX7_lasts 51 = .ok (.ifCond .eq 10, 3) := by decide +kernel
theorem dX7_lasts_54 : decode cX7_lasts 54 = .ok (.aload_n 0, 1) := by decide +kernel
theorem dX7_lasts_55 : decode cX7_lasts 55 = .ok (.iload 6, 2) := by decide +kernel
theorem dX7_lasts_57 : decode cX7_lasts 57 = .ok (.invokevirtual 43, 3) := by decide +kernel
theorem dX7_lasts_60 : decode cX7_lasts 60 = .ok (.ireturn, 1) := by decide +kernel
theorem dX7_lasts_61 : decode cX7_lasts 61 = .ok (.aload_n 0, 1) := by decide +kernel
theorem dX7_lasts_62 : decode cX7_lasts 62 = .ok (.aload 5, 2) := by decide +kernel
theorem dX7_lasts_64 : decode cX7_lasts 64 = .ok (.iload_n 2, 1) := by decide +kernel
theorem dX7_lasts_65 : decode cX7_lasts 65 = .ok (.iload_n 3, 1) := by decide +kernel
theorem dX7_lasts_66 : decode cX7_lasts 66 = .ok (.invokevirtual 202, 3) := by decide +kernel
theorem dX7_lasts_69 : decode cX7_lasts 69 = .ok (.istore 7, 2) := by decide +kernel
theorem dX7_lasts_71 : decode cX7_lasts 71 = .ok (.iload 4, 2) := by decide +kernel
theorem dX7_lasts_73 : decode cX7_lasts 73 = .ok (.ifCond .ne 8, 3) := by decide +kernel
theorem dX7_lasts_76 : decode cX7_lasts 76 = .ok (.iload 7, 2) := by decide +kernel
theorem dX7_lasts_78 : decode cX7_lasts 78 = .ok (.goto 10, 3) := by decide +kernel
theorem dX7_lasts_81 : decode cX7_lasts 81 = .ok (.aload_n 0, 1) := by decide +kernel
theorem dX7_lasts_82 : decode cX7_lasts 82 = .ok (.getfield 35, 3) := by decide +kernel
theorem dX7_lasts_85 : decode cX7_lasts 85 = .ok (.getfield 206, 3) := by decide +kernel
theorem dX7_lasts_88 : decode cX7_lasts 88 = .ok (.ireturn, 1) := by decide +kernel
theorem dX7_rules_0 : decode cX7_rules 0 = .ok (.aload_n 0, 1) := by decide +kernel
theorem dX7_rules_1 : decode cX7_rules 1 = .ok (.getfield 23, 3) := by decide +kernel
theorem dX7_rules_4 : decode cX7_rules 4 = .ok (.getfield 119, 3) := by decide +kernel
theorem dX7_rules_7 : decode cX7_rules 7 = .ok (.getfield 165, 3) := by decide +kernel
theorem dX7_rules_10 : decode cX7_rules 10 = .ok (.ifCond .ne 10, 3) := by decide +kernel
theorem dX7_rules_13 : decode cX7_rules 13 = .ok (.aload_n 0, 1) := by decide +kernel
theorem dX7_rules_14 : decode cX7_rules 14 = .ok (.bipush (-3), 2) := by decide +kernel
theorem dX7_rules_16 : decode cX7_rules 16 = .ok (.invokevirtual 43, 3) := by decide +kernel
theorem dX7_rules_19 : decode cX7_rules 19 = .ok (.ireturn, 1) := by decide +kernel
theorem dX7_rules_20 : decode cX7_rules 20 = .ok (.iload_n 1, 1) := by decide +kernel
theorem dX7_rules_21 : decode cX7_rules 21 = .ok (.ifCond .ge 10, 3) := by decide +kernel
theorem dX7_rules_24 : decode cX7_rules 24 = .ok (.aload_n 0, 1) := by decide +kernel
theorem dX7_rules_25 : decode cX7_rules 25 = .ok (.bipush (-4), 2) := by decide +kernel
theorem dX7_rules_27 : decode cX7_rules 27 = .ok (.invokevirtual 43, 3) := by decide +kernel
theorem dX7_rules_30 : decode cX7_rules 30 = .ok (.ireturn, 1) := by decide +kernel
theorem dX7_rules_31 : decode cX7_rules 31 = .ok (.iload_n 1, 1) := by decide +kernel
theorem dX7_rules_32 : decode cX7_rules 32 = .ok (.sipush 9999, 3) := by decide +kernel
theorem dX7_rules_35 : decode cX7_rules 35 = .ok (.if_icmp .le 10, 3) := by decide +kernel
theorem dX7_rules_38 : decode cX7_rules 38 = .ok (.aload_n 0, 1) := by decide +kernel
theorem dX7_rules_39 : decode cX7_rules 39 = .ok (.bipush (-6), 2) := by decide +kernel
theorem dX7_rules_41 : decode cX7_rules 41 = .ok (.invokevirtual 43, 3) := by decide +kernel
theorem dX7_rules_44 : decode cX7_rules 44 = .ok (.ireturn, 1) := by decide +kernel
theorem dX7_rules_45 : decode cX7_rules 45 = .ok (.aload_n 0, 1) := by decide +kernel
theorem dX7_rules_46 : decode cX7_rules 46 = .ok (.iconst (-1), 1) := by decide +kernel
theorem dX7_rules_47 : decode cX7_rules 47 = .ok (.invokevirtual 207, 3) := by decide +kernel
theorem dX7_rules_50 : decode cX7_rules 50 = .ok (.aload_n 0, 1) := by decide +kernel
theorem dX7_rules_51 : decode cX7_rules 51 = .ok (.getfield 35, 3) := by decide +kernel
theorem dX7_rules_54 : decode cX7_rules 54 = .ok (.iload_n 1, 1) := by decide +kernel
theorem dX7_rules_55 : decode cX7_rules 55 = .ok (.invokevirtual 211, 3) := by decide +kernel
theorem dX7_rules_58 : decode cX7_rules 58 = .ok (.aload_n 0, 1) := by decide +kernel
theorem dX7_rules_59 : decode cX7_rules 59 = .ok (.getfield 35, 3) := by decide +kernel
theorem dX7_rules_62 : decode cX7_rules 62 = .ok (.getfield 206, 3) := by decide +kernel
theorem dX7_rules_65 : decode cX7_rules 65 = .ok (.ifCond .eq 6, 3) := by decide +kernel
theorem dX7_rules_68 : decode cX7_rules 68 = .ok (.bipush (-9), 2) := by decide +kernel
theorem dX7_rules_70 : decode cX7_rules 70 = .ok (.ireturn, 1) := by decide +kernel
theorem dX7_rules_71 : decode cX7_rules 71 = .ok (.aload_n 0, 1) := by decide +kernel
theorem dX7_rules_72 : decode cX7_rules 72 = .ok (.getfield 35, 3) := by decide +kernel
theorem dX7_rules_75 : decode cX7_rules 75 = .ok (.invokevirtual 181, 3) := by decide +kernel
theorem dX7_rules_78 : decode cX7_rules 78 = .ok (.aload_n 0, 1) := by decide +kernel
theorem dX7_rules_79 : decode cX7_rules 79 = .ok (.getfield 35, 3) := by decide +kernel
theorem dX7_rules_82 : decode cX7_rules 82 = .ok (.invokevirtual 214, 3) := by decide +kernel
theorem dX7_rules_85 : decode cX7_rules 85 = .ok (.ireturn, 1) := by decide +kernel
theorem dX7_passes_0 : decode cX7_passes 0 = .ok (.aload_n 0, 1) := by decide +kernel
theorem dX7_passes_1 : decode cX7_passes 1 = .ok (.getfield 23, 3) := by decide +kernel
theorem dX7_passes_4 : decode cX7_passes 4 = .ok (.getfield 119, 3) := by decide +kernel
theorem dX7_passes_7 : decode cX7_passes 7 = .ok (.getfield 165, 3) := by decide +kernel
theorem dX7_passes_10 : decode cX7_passes 10 = .ok (.ifCond .ne 10, 3) := by decide +kernel
theorem dX7_passes_13 : decode cX7_passes 13 = .ok (.aload_n 0, 1) := by decide +kernel
theorem dX7_passes_14 : decode cX7_passes 14 = .ok (.bipush (-3), 2) := by decide +kernel
theorem dX7_passes_16 : decode cX7_passes 16 = .ok (.invokevirtual 43, 3) := by decide +kernel
theorem dX7_passes_19 : decode cX7_passes 19 = .ok (.ireturn, 1) := by decide +kernel
theorem dX7_passes_20 : decode cX7_passes 20 = .ok (.aload_n 0, 1) := by decide +kernel
theorem dX7_passes_21 : decode cX7_passes 21 = .ok (.iconst (-1), 1) := by decide +kernel
theorem dX7_passes_22 : decode cX7_passes 22 = .ok (.invokevirtual 207, 3) := by decide +kernel
theorem dX7_passes_25 : decode cX7_passes 25 = .ok (.aload_n 0, 1) := by decide +kernel
theorem dX7_passes_26 : decode cX7_passes 26 = .ok (.getfield 35, 3) := by decide +kernel
theorem dX7_passes_29 : decode cX7_passes 29 = .ok (.invokevirtual 181, 3) := by decide +kernel
theorem dX7_passes_32 : decode cX7_passes 32 = .ok (.aload_n 0, 1) := by decide +kernel
theorem dX7_passes_33 : decode cX7_passes 33 = .ok (.getfield 35, 3) := by decide +kernel
theorem dX7_passes_36 : decode cX7_passes 36 = .ok (.invokevirtual 214, 3) := by decide +kernel
theorem dX7_passes_39 : decode cX7_passes 39 = .ok (.istore_n 1, 1) := by decide +kernel
theorem dX7_passes_40 : decode cX7_passes 40 = .ok (.iconst 1, 1) := by decide +kernel
theorem dX7_passes_41 : decode cX7_passes 41 = .ok (.istore_n 2, 1) := by decide +kernel
theorem dX7_passes_42 : decode cX7_passes 42 = .ok (.iload_n 2, 1) := by decide +kernel
theorem dX7_passes_43 : decode cX7_passes 43 = .ok (.sipush 9999, 3) := by decide +kernel
theorem dX7_passes_46 : decode cX7_passes 46 = .ok (.if_icmp .ge 47, 3) := by decide +kernel
theorem dX7_passes_49 : decode cX7_passes 49 = .ok (.aload_n 0, 1) := by decide +kernel
theorem dX7_passes_50 : decode cX7_passes 50 = .ok (.getfield 35, 3) := by decide +kernel
theorem dX7_passes_53 : decode cX7_passes 53 = .ok (.getfield 206, 3) := by decide +kernel
theorem dX7_passes_56 : decode cX7_passes 56 = .ok (.ifCond .ne 37, 3) := by decide +kernel
theorem dX7_passes_59 : decode cX7_passes 59 = .ok (.aload_n 0, 1) := by decide +kernel
theorem dX7_passes_60 : decode cX7_passes 60 = .ok (.getfield 35, 3) := by decide +kernel
theorem dX7_passes_63 : decode cX7_passes 63 = .ok (.invokevirtual 181, 3) := by decide +kernel
theorem dX7_passes_66 : decode cX7_passes 66 = .ok (.aload_n 0, 1) := by decide +kernel
theorem dX7_passes_67 : decode cX7_passes 67 = .ok (.getfield 35, 3) := by decide +kernel
theorem dX7_passes_70 : decode cX7_passes 70 = .ok (.invokevirtual 214, 3) := by decide +kernel
theorem dX7_passes_73 : decode cX7_passes 73 = .ok (.istore_n 3, 1) := by decide +kernel
theorem dX7_passes_74 : decode cX7_passes 74 = .ok (.iload_n 3, 1) := by decide +kernel
theorem dX7_passes_75 : decode cX7_passes 75 = .ok (.bipush (-9), 2) := by decide +kernel
theorem dX7_passes_77 : decode cX7_passes 77 = .ok (.if_icmp .eq 10, 3) := by decide +kernel
theorem dX7_passes_80 : decode cX7_passes 80 = .ok (.iload_n 3, 1) := by decide +kernel
theorem dX7_passes_81 : decode cX7_passes 81 = .ok (.iload_n 1, 1) := by decide +kernel
theorem dX7_passes_82 : decode cX7_passes 82 = .ok (.if_icmp .eq 5, 3) := by decide +kernel
theorem dX7_passes_85 : decode cX7_passes 85 = .ok (.iload_n 2, 1) := by decide +kernel
theorem dX7_passes_86 : decode cX7_passes 86 = .ok (.ireturn, 1) := by decide +kernel
theorem dX7_passes_87 : decode cX7_passes 87 = .ok (.iinc 2 1, 3) := by decide +kernel
theorem dX7_passes_90 : decode cX7_passes 90 = .ok (.goto (-48), 3) := by decide +kernel
theorem dX7_passes_93 : decode cX7_passes 93 = .ok (.bipush (-9), 2) := by decide +kernel
theorem dX7_passes_95 : decode cX7_passes 95 = .ok (.ireturn, 1) := by decide +kernel
theorem dX7_heard_0 : decode cX7_heard 0 = .ok (.iload_n 1, 1) := by decide +kernel
theorem dX7_heard_1 : decode cX7_heard 1 = .ok (.iconst (-1), 1) := by decide +kernel
theorem dX7_heard_2 : decode cX7_heard 2 = .ok (.if_icmp .ge 10, 3) := by decide +kernel
theorem dX7_heard_5 : decode cX7_heard 5 = .ok (.aload_n 0, 1) := by decide +kernel
theorem dX7_heard_6 : decode cX7_heard 6 = .ok (.bipush (-4), 2) := by decide +kernel
theorem dX7_heard_8 : decode cX7_heard 8 = .ok (.invokevirtual 43, 3) := by decide +kernel
theorem dX7_heard_11 : decode cX7_heard 11 = .ok (.ireturn, 1) := by decide +kernel
theorem dX7_heard_12 : decode cX7_heard 12 = .ok (.iload_n 1, 1) := by decide +kernel
theorem dX7_heard_13 : decode cX7_heard 13 = .ok (.ldc 218, 2) := by decide +kernel
theorem dX7_heard_15 : decode cX7_heard 15 = .ok (.if_icmp .gt 18, 3) := by decide +kernel
theorem dX7_heard_18 : decode cX7_heard 18 = .ok (.aload_n 0, 1) := by decide +kernel
theorem dX7_heard_19 : decode cX7_heard 19 = .ok (.getfield 23, 3) := by decide +kernel
theorem dX7_heard_22 : decode cX7_heard 22 = .ok (.getfield 219, 3) := by decide +kernel
theorem dX7_heard_25 : decode cX7_heard 25 = .ok (.getfield 223, 3) := by decide +kernel
theorem dX7_heard_28 : decode cX7_heard 28 = .ok (.bipush 24, 2) := by decide +kernel
theorem dX7_heard_30 : decode cX7_heard 30 = .ok (.if_icmp .lt 10, 3) := by decide +kernel
theorem dX7_heard_33 : decode cX7_heard 33 = .ok (.aload_n 0, 1) := by decide +kernel
theorem dX7_heard_34 : decode cX7_heard 34 = .ok (.bipush (-6), 2) := by decide +kernel
theorem dX7_heard_36 : decode cX7_heard 36 = .ok (.invokevirtual 43, 3) := by decide +kernel
theorem dX7_heard_39 : decode cX7_heard 39 = .ok (.ireturn, 1) := by decide +kernel
theorem dX7_heard_40 : decode cX7_heard 40 = .ok (.aload_n 0, 1) := by decide +kernel
theorem dX7_heard_41 : decode cX7_heard 41 = .ok (.getfield 23, 3) := by decide +kernel
theorem dX7_heard_44 : decode cX7_heard 44 = .ok (.getfield 219, 3) := by decide +kernel
theorem dX7_heard_47 : decode cX7_heard 47 = .ok (.iload_n 1, 1) := by decide +kernel
theorem dX7_heard_48 : decode cX7_heard 48 = .ok (.invokevirtual 226, 3) := by decide +kernel
theorem dX7_heard_51 : decode cX7_heard 51 = .ok (.ireturn, 1) := by decide +kernel
theorem dX7_hush_0 : decode cX7_hush 0 = .ok (.aload_n 0, 1) := by decide +kernel
theorem dX7_hush_1 : decode cX7_hush 1 = .ok (.getfield 23, 3) := by decide +kernel
theorem dX7_hush_4 : decode cX7_hush 4 = .ok (.getfield 219, 3) := by decide +kernel
theorem dX7_hush_7 : decode cX7_hush 7 = .ok (.getfield 223, 3) := by decide +kernel
theorem dX7_hush_10 : decode cX7_hush 10 = .ok (.istore_n 1, 1) := by decide +kernel
theorem dX7_hush_11 : decode cX7_hush 11 = .ok (.aload_n 0, 1) := by decide +kernel
theorem dX7_hush_12 : decode cX7_hush 12 = .ok (.getfield 23, 3) := by decide +kernel
theorem dX7_hush_15 : decode cX7_hush 15 = .ok (.getfield 219, 3) := by decide +kernel
theorem dX7_hush_18 : decode cX7_hush 18 = .ok (.iconst 0, 1) := by decide +kernel
theorem dX7_hush_19 : decode cX7_hush 19 = .ok (.putfield 223, 3) := by decide +kernel
theorem dX7_hush_22 : decode cX7_hush 22 = .ok (.iload_n 1, 1) := by decide +kernel
theorem dX7_hush_23 : decode cX7_hush 23 = .ok (.ireturn, 1) := by decide +kernel
theorem dX7_slip_0 : decode cX7_slip 0 = .ok (.iload_n 1, 1) := by decide +kernel
theorem dX7_slip_1 : decode cX7_slip 1 = .ok (.ifCond .ge 10, 3) := by decide +kernel
theorem dX7_slip_4 : decode cX7_slip 4 = .ok (.aload_n 0, 1) := by decide +kernel
theorem dX7_slip_5 : decode cX7_slip 5 = .ok (.bipush (-4), 2) := by decide +kernel
theorem dX7_slip_7 : decode cX7_slip 7 = .ok (.invokevirtual 43, 3) := by decide +kernel
theorem dX7_slip_10 : decode cX7_slip 10 = .ok (.ireturn, 1) := by decide +kernel
theorem dX7_slip_11 : decode cX7_slip 11 = .ok (.iload_n 1, 1) := by decide +kernel
theorem dX7_slip_12 : decode cX7_slip 12 = .ok (.sipush 999, 3) := by decide +kernel
theorem dX7_slip_15 : decode cX7_slip 15 = .ok (.if_icmp .le 10, 3) := by decide +kernel
theorem dX7_slip_18 : decode cX7_slip 18 = .ok (.aload_n 0, 1) := by decide +kernel
theorem dX7_slip_19 : decode cX7_slip 19 = .ok (.bipush (-6), 2) := by decide +kernel
theorem dX7_slip_21 : decode cX7_slip 21 = .ok (.invokevirtual 43, 3) := by decide +kernel
theorem dX7_slip_24 : decode cX7_slip 24 = .ok (.ireturn, 1) := by decide +kernel
theorem dX7_slip_25 : decode cX7_slip 25 = .ok (.aload_n 0, 1) := by decide +kernel
theorem dX7_slip_26 : decode cX7_slip 26 = .ok (.getfield 23, 3) := by decide +kernel
theorem dX7_slip_29 : decode cX7_slip 29 = .ok (.getfield 219, 3) := by decide +kernel
theorem dX7_slip_32 : decode cX7_slip 32 = .ok (.getfield 228, 3) := by decide +kernel
theorem dX7_slip_35 : decode cX7_slip 35 = .ok (.istore_n 2, 1) := by decide +kernel
theorem dX7_slip_36 : decode cX7_slip 36 = .ok (.aload_n 0, 1) := by decide +kernel
theorem dX7_slip_37 : decode cX7_slip 37 = .ok (.getfield 23, 3) := by decide +kernel
theorem dX7_slip_40 : decode cX7_slip 40 = .ok (.getfield 219, 3) := by decide +kernel
theorem dX7_slip_43 : decode cX7_slip 43 = .ok (.iload_n 1, 1) := by decide +kernel
theorem dX7_slip_44 : decode cX7_slip 44 = .ok (.putfield 228, 3) := by decide +kernel
theorem dX7_slip_47 : decode cX7_slip 47 = .ok (.iload_n 2, 1) := by decide +kernel
theorem dX7_slip_48 : decode cX7_slip 48 = .ok (.ireturn, 1) := by decide +kernel
theorem dX7_firstOff_0 : decode cX7_firstOff 0 = .ok (.aload_n 0, 1) := by decide +kernel
theorem dX7_firstOff_1 : decode cX7_firstOff 1 = .ok (.iload_n 1, 1) := by decide +kernel
theorem dX7_firstOff_2 : decode cX7_firstOff 2 = .ok (.invokevirtual 231, 3) := by decide +kernel
theorem dX7_firstOff_5 : decode cX7_firstOff 5 = .ok (.ifCond .ne 9, 3) := by decide +kernel
theorem dX7_firstOff_8 : decode cX7_firstOff 8 = .ok (.aload_n 0, 1) := by decide +kernel
theorem dX7_firstOff_9 : decode cX7_firstOff 9 = .ok (.iconst (-1), 1) := by decide +kernel
theorem dX7_firstOff_10 : decode cX7_firstOff 10 = .ok (.invokevirtual 43, 3) := by decide +kernel
theorem dX7_firstOff_13 : decode cX7_firstOff 13 = .ok (.ireturn, 1) := by decide +kernel
theorem dX7_firstOff_14 : decode cX7_firstOff 14 = .ok (.aload_n 0, 1) := by decide +kernel
theorem dX7_firstOff_15 : decode cX7_firstOff 15 = .ok (.getfield 23, 3) := by decide +kernel
theorem dX7_firstOff_18 : decode cX7_firstOff 18 = .ok (.getfield 119, 3) := by decide +kernel
theorem dX7_firstOff_21 : decode cX7_firstOff 21 = .ok (.getfield 165, 3) := by decide +kernel
theorem dX7_firstOff_24 : decode cX7_firstOff 24 = .ok (.ifCond .ne 10, 3) := by decide +kernel
theorem dX7_firstOff_27 : decode cX7_firstOff 27 = .ok (.aload_n 0, 1) := by decide +kernel
theorem dX7_firstOff_28 : decode cX7_firstOff 28 = .ok (.bipush (-3), 2) := by decide +kernel
theorem dX7_firstOff_30 : decode cX7_firstOff 30 = .ok (.invokevirtual 43, 3) := by decide +kernel
theorem dX7_firstOff_33 : decode cX7_firstOff 33 = .ok (.ireturn, 1) := by decide +kernel
theorem dX7_firstOff_34 : decode cX7_firstOff 34 = .ok (.aload_n 0, 1) := by decide +kernel
theorem dX7_firstOff_35 : decode cX7_firstOff 35 = .ok (.iload_n 1, 1) := by decide +kernel
theorem dX7_firstOff_36 : decode cX7_firstOff 36 = .ok (.invokevirtual 207, 3) := by decide +kernel
theorem dX7_firstOff_39 : decode cX7_firstOff 39 = .ok (.aload_n 0, 1) := by decide +kernel
theorem dX7_firstOff_40 : decode cX7_firstOff 40 = .ok (.invokevirtual 234, 3) := by decide +kernel
theorem dX7_firstOff_43 : decode cX7_firstOff 43 = .ok (.ireturn, 1) := by decide +kernel
theorem dX7_supposed_0 : decode cX7_supposed 0 = .ok (.iload_n 1, 1) := by decide +kernel
theorem dX7_supposed_1 : decode cX7_supposed 1 = .ok (.invokestatic 132, 3) := by decide +kernel
theorem dX7_supposed_4 : decode cX7_supposed 4 = .ok (.ifCond .ne 10, 3) := by decide +kernel
theorem dX7_supposed_7 : decode cX7_supposed 7 = .ok (.aload_n 0, 1) := by decide +kernel
theorem dX7_supposed_8 : decode cX7_supposed 8 = .ok (.bipush (-2), 2) := by decide +kernel
theorem dX7_supposed_10 : decode cX7_supposed 10 = .ok (.invokevirtual 43, 3) := by decide +kernel
theorem dX7_supposed_13 : decode cX7_supposed 13 = .ok (.ireturn, 1) := by decide +kernel
theorem dX7_supposed_14 : decode cX7_supposed 14 = .ok (.aload_n 0, 1) := by decide +kernel
theorem dX7_supposed_15 : decode cX7_supposed 15 = .ok (.getfield 23, 3) := by decide +kernel
theorem dX7_supposed_18 : decode cX7_supposed 18 = .ok (.getfield 119, 3) := by decide +kernel
theorem dX7_supposed_21 : decode cX7_supposed 21 = .ok (.getfield 165, 3) := by decide +kernel
theorem dX7_supposed_24 : decode cX7_supposed 24 = .ok (.ifCond .ne 10, 3) := by decide +kernel
theorem dX7_supposed_27 : decode cX7_supposed 27 = .ok (.aload_n 0, 1) := by decide +kernel
theorem dX7_supposed_28 : decode cX7_supposed 28 = .ok (.bipush (-3), 2) := by decide +kernel
theorem dX7_supposed_30 : decode cX7_supposed 30 = .ok (.invokevirtual 43, 3) := by decide +kernel
theorem dX7_supposed_33 : decode cX7_supposed 33 = .ok (.ireturn, 1) := by decide +kernel
theorem dX7_supposed_34 : decode cX7_supposed 34 = .ok (.iconst 0, 1) := by decide +kernel
theorem dX7_supposed_35 : decode cX7_supposed 35 = .ok (.istore_n 2, 1) := by decide +kernel
theorem dX7_supposed_36 : decode cX7_supposed 36 = .ok (.bipush (-9), 2) := by decide +kernel
theorem dX7_supposed_38 : decode cX7_supposed 38 = .ok (.istore_n 3, 1) := by decide +kernel
theorem dX7_supposed_39 : decode cX7_supposed 39 = .ok (.iconst 0, 1) := by decide +kernel
theorem dX7_supposed_40 : decode cX7_supposed 40 = .ok (.istore 4, 2) := by decide +kernel
theorem dX7_supposed_42 : decode cX7_supposed 42 = .ok (.iload 4, 2) := by decide +kernel
theorem dX7_supposed_44 : decode cX7_supposed 44 = .ok (.sipush 256, 3) := by decide +kernel
theorem dX7_supposed_47 : decode cX7_supposed 47 = .ok (.if_icmp .ge 57, 3) := by decide +kernel
theorem dX7_supposed_50 : decode cX7_supposed 50 = .ok (.aload_n 0, 1) := by decide +kernel
theorem dX7_supposed_51 : decode cX7_supposed 51 = .ok (.iload 4, 2) := by decide +kernel
theorem dX7_supposed_53 : decode cX7_supposed 53 = .ok (.invokevirtual 231, 3) := by decide +kernel
theorem dX7_supposed_56 : decode cX7_supposed 56 = .ok (.ifCond .eq 48, 3) := by decide +kernel
theorem dX7_supposed_59 : decode cX7_supposed 59 = .ok (.aload_n 0, 1) := by decide +kernel
theorem dX7_supposed_60 : decode cX7_supposed 60 = .ok (.iload 4, 2) := by decide +kernel
theorem dX7_supposed_62 : decode cX7_supposed 62 = .ok (.invokevirtual 207, 3) := by decide +kernel
theorem dX7_supposed_65 : decode cX7_supposed 65 = .ok (.aload_n 0, 1) := by decide +kernel
theorem dX7_supposed_66 : decode cX7_supposed 66 = .ok (.invokevirtual 234, 3) := by decide +kernel
theorem dX7_supposed_69 : decode cX7_supposed 69 = .ok (.bipush (-9), 2) := by decide +kernel
theorem dX7_supposed_71 : decode cX7_supposed 71 = .ok (.if_icmp .ne 27, 3) := by decide +kernel
theorem dX7_supposed_74 : decode cX7_supposed 74 = .ok (.iinc 2 1, 3) := by decide +kernel
theorem dX7_supposed_77 : decode cX7_supposed 77 = .ok (.iload_n 3, 1) := by decide +kernel
theorem dX7_supposed_78 : decode cX7_supposed 78 = .ok (.bipush (-9), 2) := by decide +kernel
theorem dX7_supposed_80 : decode cX7_supposed 80 = .ok (.if_icmp .eq 15, 3) := by decide +kernel
theorem dX7_supposed_83 : decode cX7_supposed 83 = .ok (.iload 4, 2) := by decide +kernel
theorem dX7_supposed_85 : decode cX7_supposed 85 = .ok (.invokestatic 237, 3) := by decide +kernel
theorem dX7_supposed_88 : decode cX7_supposed 88 = .ok (.iload_n 3, 1) := by decide +kernel
theorem dX7_supposed_89 : decode cX7_supposed 89 = .ok (.invokestatic 237, 3) := by decide +kernel
theorem dX7_supposed_92 : decode cX7_supposed 92 = .ok (.if_icmp .ge 6, 3) := by decide +kernel
theorem dX7_supposed_95 : decode cX7_supposed 95 = .ok (.iload 4, 2) := by decide +kernel
theorem dX7_supposed_97 : decode cX7_supposed 97 = .ok (.istore_n 3, 1) := by decide +kernel
theorem dX7_supposed_98 : decode cX7_supposed 98 = .ok (.iinc 4 1, 3) := by decide +kernel
theorem dX7_supposed_101 : decode cX7_supposed 101 = .ok (.goto (-59), 3) := by decide +kernel
theorem dX7_supposed_104 : decode cX7_supposed 104 = .ok (.iload_n 1, 1) := by decide +kernel
theorem dX7_supposed_105 : decode cX7_supposed 105 = .ok (.ifCond .ne 7, 3) := by decide +kernel
theorem dX7_supposed_108 : decode cX7_supposed 108 = .ok (.iload_n 2, 1) := by decide +kernel
theorem dX7_supposed_109 : decode cX7_supposed 109 = .ok (.goto 4, 3) := by decide +kernel
theorem dX7_supposed_112 : decode cX7_supposed 112 = .ok (.iload_n 3, 1) := by decide +kernel
theorem dX7_supposed_113 : decode cX7_supposed 113 = .ok (.ireturn, 1) := by decide +kernel
theorem dX7_ahead_0 : decode cX7_ahead 0 = .ok (.aload_n 0, 1) := by decide +kernel
theorem dX7_ahead_1 : decode cX7_ahead 1 = .ok (.iload_n 2, 1) := by decide +kernel
theorem dX7_ahead_2 : decode cX7_ahead 2 = .ok (.invokevirtual 231, 3) := by decide +kernel
theorem dX7_ahead_5 : decode cX7_ahead 5 = .ok (.ifCond .eq 31, 3) := by decide +kernel
theorem dX7_ahead_8 : decode cX7_ahead 8 = .ok (.iload_n 1, 1) := by decide +kernel
theorem dX7_ahead_9 : decode cX7_ahead 9 = .ok (.iconst 2, 1) := by decide +kernel
theorem dX7_ahead_10 : decode cX7_ahead 10 = .ok (.if_icmp .ne 14, 3) := by decide +kernel
theorem dX7_ahead_13 : decode cX7_ahead 13 = .ok (.aload_n 0, 1) := by decide +kernel
theorem dX7_ahead_14 : decode cX7_ahead 14 = .ok (.getfield 23, 3) := by decide +kernel
theorem dX7_ahead_17 : decode cX7_ahead 17 = .ok (.iload_n 3, 1) := by decide +kernel
theorem dX7_ahead_18 : decode cX7_ahead 18 = .ok (.invokevirtual 69, 3) := by decide +kernel
theorem dX7_ahead_21 : decode cX7_ahead 21 = .ok (.ifnull 15, 3) := by decide +kernel
theorem dX7_ahead_24 : decode cX7_ahead 24 = .ok (.iload_n 1, 1) := by decide +kernel
theorem dX7_ahead_25 : decode cX7_ahead 25 = .ok (.iconst 3, 1) := by decide +kernel
theorem dX7_ahead_26 : decode cX7_ahead 26 = .ok (.if_icmp .ne 16, 3) := by decide +kernel
theorem dX7_ahead_29 : decode cX7_ahead 29 = .ok (.iload_n 3, 1) := by decide +kernel
theorem dX7_ahead_30 : decode cX7_ahead 30 = .ok (.invokestatic 128, 3) := by decide +kernel
theorem dX7_ahead_33 : decode cX7_ahead 33 = .ok (.ifCond .ne 9, 3) := by decide +kernel
theorem dX7_ahead_36 : decode cX7_ahead 36 = .ok (.aload_n 0, 1) := by decide +kernel
theorem dX7_ahead_37 : decode cX7_ahead 37 = .ok (.iconst (-1), 1) := by decide +kernel
theorem dX7_ahead_38 : decode cX7_ahead 38 = .ok (.invokevirtual 43, 3) := by decide +kernel
theorem dX7_ahead_41 : decode cX7_ahead 41 = .ok (.ireturn, 1) := by decide +kernel
theorem dX7_ahead_42 : decode cX7_ahead 42 = .ok (.iload_n 1, 1) := by decide +kernel
theorem dX7_ahead_43 : decode cX7_ahead 43 = .ok (.ifCond .lt 8, 3) := by decide +kernel
theorem dX7_ahead_46 : decode cX7_ahead 46 = .ok (.iload_n 1, 1) := by decide +kernel
theorem dX7_ahead_47 : decode cX7_ahead 47 = .ok (.iconst 4, 1) := by decide +kernel
theorem dX7_ahead_48 : decode cX7_ahead 48 = .ok (.if_icmp .le 10, 3) := by decide +kernel
theorem dX7_ahead_51 : decode cX7_ahead 51 = .ok (.aload_n 0, 1) := by decide +kernel
theorem dX7_ahead_52 : decode cX7_ahead 52 = .ok (.bipush (-2), 2) := by decide +kernel
theorem dX7_ahead_54 : decode cX7_ahead 54 = .ok (.invokevirtual 43, 3) := by decide +kernel
theorem dX7_ahead_57 : decode cX7_ahead 57 = .ok (.ireturn, 1) := by decide +kernel
theorem dX7_ahead_58 : decode cX7_ahead 58 = .ok (.aload_n 0, 1) := by decide +kernel
theorem dX7_ahead_59 : decode cX7_ahead 59 = .ok (.getfield 23, 3) := by decide +kernel
theorem dX7_ahead_62 : decode cX7_ahead 62 = .ok (.getfield 119, 3) := by decide +kernel
theorem dX7_ahead_65 : decode cX7_ahead 65 = .ok (.getfield 165, 3) := by decide +kernel
theorem dX7_ahead_68 : decode cX7_ahead 68 = .ok (.ifCond .ne 10, 3) := by decide +kernel
theorem dX7_ahead_71 : decode cX7_ahead 71 = .ok (.aload_n 0, 1) := by decide +kernel
theorem dX7_ahead_72 : decode cX7_ahead 72 = .ok (.bipush (-3), 2) := by decide +kernel
theorem dX7_ahead_74 : decode cX7_ahead 74 = .ok (.invokevirtual 43, 3) := by decide +kernel
theorem dX7_ahead_77 : decode cX7_ahead 77 = .ok (.ireturn, 1) := by decide +kernel
theorem dX7_ahead_78 : decode cX7_ahead 78 = .ok (.aload_n 0, 1) := by decide +kernel
theorem dX7_ahead_79 : decode cX7_ahead 79 = .ok (.iload_n 1, 1) := by decide +kernel
theorem dX7_ahead_80 : decode cX7_ahead 80 = .ok (.iload_n 2, 1) := by decide +kernel
theorem dX7_ahead_81 : decode cX7_ahead 81 = .ok (.iload_n 3, 1) := by decide +kernel
theorem dX7_ahead_82 : decode cX7_ahead 82 = .ok (.invokevirtual 242, 3) := by decide +kernel
theorem dX7_ahead_85 : decode cX7_ahead 85 = .ok (.ireturn, 1) := by decide +kernel
theorem dX7_parts_0 : decode cX7_parts 0 = .ok (.aload_n 0, 1) := by decide +kernel
theorem dX7_parts_1 : decode cX7_parts 1 = .ok (.iload_n 1, 1) := by decide +kernel
theorem dX7_parts_2 : decode cX7_parts 2 = .ok (.invokevirtual 231, 3) := by decide +kernel
theorem dX7_parts_5 : decode cX7_parts 5 = .ok (.ifCond .eq 30, 3) := by decide +kernel
theorem dX7_parts_8 : decode cX7_parts 8 = .ok (.aload_n 0, 1) := by decide +kernel
theorem dX7_parts_9 : decode cX7_parts 9 = .ok (.iload_n 2, 1) := by decide +kernel
theorem dX7_parts_10 : decode cX7_parts 10 = .ok (.invokevirtual 231, 3) := by decide +kernel
theorem dX7_parts_13 : decode cX7_parts 13 = .ok (.ifCond .eq 22, 3) := by decide +kernel
theorem dX7_parts_16 : decode cX7_parts 16 = .ok (.aload_n 0, 1) := by decide +kernel
theorem dX7_parts_17 : decode cX7_parts 17 = .ok (.getfield 23, 3) := by decide +kernel
theorem dX7_parts_20 : decode cX7_parts 20 = .ok (.iload_n 3, 1) := by decide +kernel
theorem dX7_parts_21 : decode cX7_parts 21 = .ok (.invokevirtual 69, 3) := by decide +kernel
theorem dX7_parts_24 : decode cX7_parts 24 = .ok (.ifnull 11, 3) := by decide +kernel
theorem dX7_parts_27 : decode cX7_parts 27 = .ok (.iload 4, 2) := by decide +kernel
theorem dX7_parts_29 : decode cX7_parts 29 = .ok (.invokestatic 128, 3) := by decide +kernel
theorem dX7_parts_32 : decode cX7_parts 32 = .ok (.ifCond .ne 9, 3) := by decide +kernel
theorem dX7_parts_35 : decode cX7_parts 35 = .ok (.aload_n 0, 1) := by decide +kernel
theorem dX7_parts_36 : decode cX7_parts 36 = .ok (.iconst (-1), 1) := by decide +kernel
theorem dX7_parts_37 : decode cX7_parts 37 = .ok (.invokevirtual 43, 3) := by decide +kernel
theorem dX7_parts_40 : decode cX7_parts 40 = .ok (.ireturn, 1) := by decide +kernel
theorem dX7_parts_41 : decode cX7_parts 41 = .ok (.iload 5, 2) := by decide +kernel
theorem dX7_parts_43 : decode cX7_parts 43 = .ok (.invokestatic 132, 3) := by decide +kernel
theorem dX7_parts_46 : decode cX7_parts 46 = .ok (.ifCond .ne 10, 3) := by decide +kernel
theorem dX7_parts_49 : decode cX7_parts 49 = .ok (.aload_n 0, 1) := by decide +kernel
theorem dX7_parts_50 : decode cX7_parts 50 = .ok (.bipush (-2), 2) := by decide +kernel
theorem dX7_parts_52 : decode cX7_parts 52 = .ok (.invokevirtual 43, 3) := by decide +kernel
theorem dX7_parts_55 : decode cX7_parts 55 = .ok (.ireturn, 1) := by decide +kernel
theorem dX7_parts_56 : decode cX7_parts 56 = .ok (.aload_n 0, 1) := by decide +kernel
theorem dX7_parts_57 : decode cX7_parts 57 = .ok (.getfield 23, 3) := by decide +kernel
theorem dX7_parts_60 : decode cX7_parts 60 = .ok (.getfield 119, 3) := by decide +kernel
theorem dX7_parts_63 : decode cX7_parts 63 = .ok (.getfield 165, 3) := by decide +kernel
theorem dX7_parts_66 : decode cX7_parts 66 = .ok (.ifCond .ne 10, 3) := by decide +kernel
theorem dX7_parts_69 : decode cX7_parts 69 = .ok (.aload_n 0, 1) := by decide +kernel
theorem dX7_parts_70 : decode cX7_parts 70 = .ok (.bipush (-3), 2) := by decide +kernel
theorem dX7_parts_72 : decode cX7_parts 72 = .ok (.invokevirtual 43, 3) := by decide +kernel
theorem dX7_parts_75 : decode cX7_parts 75 = .ok (.ireturn, 1) := by decide +kernel
theorem dX7_parts_76 : decode cX7_parts 76 = .ok (.iconst 0, 1) := by decide +kernel
theorem dX7_parts_77 : decode cX7_parts 77 = .ok (.istore 6, 2) := by decide +kernel
theorem dX7_parts_79 : decode cX7_parts 79 = .ok (.iconst (-1), 1) := by decide +kernel
theorem dX7_parts_80 : decode cX7_parts 80 = .ok (.istore 7, 2) := by decide +kernel
theorem dX7_parts_82 : decode cX7_parts 82 = .ok (.iconst 0, 1) := by decide +kernel
theorem dX7_parts_83 : decode cX7_parts 83 = .ok (.istore 8, 2) := by decide +kernel
theorem dX7_parts_85 : decode cX7_parts 85 = .ok (.iload 8, 2) := by decide +kernel
theorem dX7_parts_87 : decode cX7_parts 87 = .ok (.iconst 4, 1) := by decide +kernel
theorem dX7_parts_88 : decode cX7_parts 88 = .ok (.if_icmp .gt 62, 3) := by decide +kernel
theorem dX7_parts_91 : decode cX7_parts 91 = .ok (.iload 8, 2) := by decide +kernel
theorem dX7_parts_93 : decode cX7_parts 93 = .ok (.iconst 2, 1) := by decide +kernel
theorem dX7_parts_94 : decode cX7_parts 94 = .ok (.if_icmp .ne 7, 3) := by decide +kernel
theorem dX7_parts_97 : decode cX7_parts 97 = .ok (.iload_n 3, 1) := by decide +kernel
theorem dX7_parts_98 : decode cX7_parts 98 = .ok (.goto 5, 3) := by decide +kernel
theorem dX7_parts_101 : decode cX7_parts 101 = .ok (.iload 4, 2) := by decide +kernel
theorem dX7_parts_103 : decode cX7_parts 103 = .ok (.istore 9, 2) := by decide +kernel
theorem dX7_parts_105 : decode cX7_parts 105 = .ok (.aload_n 0, 1) := by decide +kernel
theorem dX7_parts_106 : decode cX7_parts 106 = .ok (.iload 8, 2) := by decide +kernel
theorem dX7_parts_108 : decode cX7_parts 108 = .ok (.iload_n 1, 1) := by decide +kernel
theorem dX7_parts_109 : decode cX7_parts 109 = .ok (.iload 9, 2) := by decide +kernel
theorem dX7_parts_111 : decode cX7_parts 111 = .ok (.invokevirtual 242, 3) := by decide +kernel
theorem dX7_parts_114 : decode cX7_parts 114 = .ok (.aload_n 0, 1) := by decide +kernel
theorem dX7_parts_115 : decode cX7_parts 115 = .ok (.iload 8, 2) := by decide +kernel
theorem dX7_parts_117 : decode cX7_parts 117 = .ok (.iload_n 2, 1) := by decide +kernel
theorem dX7_parts_118 : decode cX7_parts 118 = .ok (.iload 9, 2) := by decide +kernel
theorem dX7_parts_120 : decode cX7_parts 120 = .ok (.invokevirtual 242, 3) := by decide +kernel
theorem dX7_parts_123 : decode cX7_parts 123 = .ok (.isub, 1) := by decide +kernel
theorem dX7_parts_124 : decode cX7_parts 124 = .ok (.invokestatic 245, 3) := by decide +kernel
theorem dX7_parts_127 : decode cX7_parts 127 = .ok (.istore 10, 2) := by decide +kernel
theorem dX7_parts_129 : decode cX7_parts 129 = .ok (.iload 10, 2) := by decide +kernel
theorem dX7_parts_131 : decode cX7_parts 131 = .ok (.iload 7, 2) := by decide +kernel
theorem dX7_parts_133 : decode cX7_parts 133 = .ok (.if_icmp .le 11, 3) := by decide +kernel
theorem dX7_parts_136 : decode cX7_parts 136 = .ok (.iload 10, 2) := by decide +kernel
theorem dX7_parts_138 : decode cX7_parts 138 = .ok (.istore 7, 2) := by decide +kernel
theorem dX7_parts_140 : decode cX7_parts 140 = .ok (.iload 8, 2) := by decide +kernel
theorem dX7_parts_142 : decode cX7_parts 142 = .ok (.istore 6, 2) := by decide +kernel
theorem dX7_parts_144 : decode cX7_parts 144 = .ok (.iinc 8 1, 3) := by decide +kernel
theorem dX7_parts_147 : decode cX7_parts 147 = .ok (.goto (-62), 3) := by decide +kernel
theorem dX7_parts_150 : decode cX7_parts 150 = .ok (.iload 5, 2) := by decide +kernel
theorem dX7_parts_152 : decode cX7_parts 152 = .ok (.ifCond .ne 8, 3) := by decide +kernel
theorem dX7_parts_155 : decode cX7_parts 155 = .ok (.iload 6, 2) := by decide +kernel
theorem dX7_parts_157 : decode cX7_parts 157 = .ok (.goto 5, 3) := by decide +kernel
theorem dX7_parts_160 : decode cX7_parts 160 = .ok (.iload 7, 2) := by decide +kernel
theorem dX7_parts_162 : decode cX7_parts 162 = .ok (.ireturn, 1) := by decide +kernel
theorem dX7_longest_0 : decode cX7_longest 0 = .ok (.iload_n 3, 1) := by decide +kernel
theorem dX7_longest_1 : decode cX7_longest 1 = .ok (.invokestatic 128, 3) := by decide +kernel
theorem dX7_longest_4 : decode cX7_longest 4 = .ok (.ifCond .ne 9, 3) := by decide +kernel
theorem dX7_longest_7 : decode cX7_longest 7 = .ok (.aload_n 0, 1) := by decide +kernel
theorem dX7_longest_8 : decode cX7_longest 8 = .ok (.iconst (-1), 1) := by decide +kernel
theorem dX7_longest_9 : decode cX7_longest 9 = .ok (.invokevirtual 43, 3) := by decide +kernel
theorem dX7_longest_12 : decode cX7_longest 12 = .ok (.ireturn, 1) := by decide +kernel
theorem dX7_longest_13 : decode cX7_longest 13 = .ok (.iload_n 1, 1) := by decide +kernel
theorem dX7_longest_14 : decode cX7_longest 14 = .ok (.ifCond .lt 7, 3) := by decide +kernel
theorem dX7_longest_17 : decode cX7_longest 17 = .ok (.iload_n 2, 1) := by decide +kernel
theorem dX7_longest_18 : decode cX7_longest 18 = .ok (.ifCond .ge 10, 3) := by decide +kernel
theorem dX7_longest_21 : decode cX7_longest 21 = .ok (.aload_n 0, 1) := by decide +kernel
theorem dX7_longest_22 : decode cX7_longest 22 = .ok (.bipush (-4), 2) := by decide +kernel
theorem dX7_longest_24 : decode cX7_longest 24 = .ok (.invokevirtual 43, 3) := by decide +kernel
theorem dX7_longest_27 : decode cX7_longest 27 = .ok (.ireturn, 1) := by decide +kernel
theorem dX7_longest_28 : decode cX7_longest 28 = .ok (.iload_n 1, 1) := by decide +kernel
theorem dX7_longest_29 : decode cX7_longest 29 = .ok (.sipush 999, 3) := by decide +kernel
theorem dX7_longest_32 : decode cX7_longest 32 = .ok (.if_icmp .gt 10, 3) := by decide +kernel
theorem dX7_longest_35 : decode cX7_longest 35 = .ok (.iload_n 2, 1) := by decide +kernel
theorem dX7_longest_36 : decode cX7_longest 36 = .ok (.sipush 9000, 3) := by decide +kernel
theorem dX7_longest_39 : decode cX7_longest 39 = .ok (.if_icmp .le 10, 3) := by decide +kernel
theorem dX7_longest_42 : decode cX7_longest 42 = .ok (.aload_n 0, 1) := by decide +kernel
theorem dX7_longest_43 : decode cX7_longest 43 = .ok (.bipush (-6), 2) := by decide +kernel
theorem dX7_longest_45 : decode cX7_longest 45 = .ok (.invokevirtual 43, 3) := by decide +kernel
theorem dX7_longest_48 : decode cX7_longest 48 = .ok (.ireturn, 1) := by decide +kernel
theorem dX7_longest_49 : decode cX7_longest 49 = .ok (.bipush (-9), 2) := by decide +kernel
theorem dX7_longest_51 : decode cX7_longest 51 = .ok (.istore 4, 2) := by decide +kernel
theorem dX7_longest_53 : decode cX7_longest 53 = .ok (.iconst (-1), 1) := by decide +kernel
theorem dX7_longest_54 : decode cX7_longest 54 = .ok (.istore 5, 2) := by decide +kernel
theorem dX7_longest_56 : decode cX7_longest 56 = .ok (.iconst 0, 1) := by decide +kernel
theorem dX7_longest_57 : decode cX7_longest 57 = .ok (.istore 6, 2) := by decide +kernel
theorem dX7_longest_59 : decode cX7_longest 59 = .ok (.iload 6, 2) := by decide +kernel
theorem dX7_longest_61 : decode cX7_longest 61 = .ok (.bipush 6, 2) := by decide +kernel
theorem dX7_longest_63 : decode cX7_longest 63 = .ok (.if_icmp .ge 59, 3) := by decide +kernel
theorem dX7_longest_66 : decode cX7_longest 66 = .ok (.aload_n 0, 1) := by decide +kernel
theorem dX7_longest_67 : decode cX7_longest 67 = .ok (.getfield 23, 3) := by decide +kernel
theorem dX7_longest_70 : decode cX7_longest 70 = .ok (.iload 6, 2) := by decide +kernel
theorem dX7_longest_72 : decode cX7_longest 72 = .ok (.invokevirtual 69, 3) := by decide +kernel
theorem dX7_longest_75 : decode cX7_longest 75 = .ok (.astore 7, 2) := by decide +kernel
theorem dX7_longest_77 : decode cX7_longest 77 = .ok (.aload 7, 2) := by decide +kernel
theorem dX7_longest_79 : decode cX7_longest 79 = .ok (.ifnull 37, 3) := by decide +kernel
theorem dX7_longest_82 : decode cX7_longest 82 = .ok (.aload 7, 2) := by decide +kernel
theorem dX7_longest_84 : decode cX7_longest 84 = .ok (.getfield 73, 3) := by decide +kernel
theorem dX7_longest_87 : decode cX7_longest 87 = .ok (.iload_n 1, 1) := by decide +kernel
theorem dX7_longest_88 : decode cX7_longest 88 = .ok (.if_icmp .gt 28, 3) := by decide +kernel
theorem dX7_longest_91 : decode cX7_longest 91 = .ok (.aload_n 0, 1) := by decide +kernel
theorem dX7_longest_92 : decode cX7_longest 92 = .ok (.aload 7, 2) := by decide +kernel
theorem dX7_longest_94 : decode cX7_longest 94 = .ok (.iload_n 2, 1) := by decide +kernel
theorem dX7_longest_95 : decode cX7_longest 95 = .ok (.iload_n 3, 1) := by decide +kernel
theorem dX7_longest_96 : decode cX7_longest 96 = .ok (.invokevirtual 202, 3) := by decide +kernel
theorem dX7_longest_99 : decode cX7_longest 99 = .ok (.istore 8, 2) := by decide +kernel
theorem dX7_longest_101 : decode cX7_longest 101 = .ok (.iload 8, 2) := by decide +kernel
theorem dX7_longest_103 : decode cX7_longest 103 = .ok (.iload 5, 2) := by decide +kernel
theorem dX7_longest_105 : decode cX7_longest 105 = .ok (.if_icmp .le 11, 3) := by decide +kernel
theorem dX7_longest_108 : decode cX7_longest 108 = .ok (.iload 8, 2) := by decide +kernel
theorem dX7_longest_110 : decode cX7_longest 110 = .ok (.istore 5, 2) := by decide +kernel
theorem dX7_longest_112 : decode cX7_longest 112 = .ok (.iload 6, 2) := by decide +kernel
theorem dX7_longest_114 : decode cX7_longest 114 = .ok (.istore 4, 2) := by decide +kernel
theorem dX7_longest_116 : decode cX7_longest 116 = .ok (.iinc 6 1, 3) := by decide +kernel
theorem dX7_longest_119 : decode cX7_longest 119 = .ok (.goto (-60), 3) := by decide +kernel
theorem dX7_longest_122 : decode cX7_longest 122 = .ok (.iload 4, 2) := by decide +kernel
theorem dX7_longest_124 : decode cX7_longest 124 = .ok (.ireturn, 1) := by decide +kernel
theorem dX7_bestFor_0 : decode cX7_bestFor 0 = .ok (.aload_n 0, 1) := by decide +kernel
theorem dX7_bestFor_1 : decode cX7_bestFor 1 = .ok (.getfield 23, 3) := by decide +kernel
theorem dX7_bestFor_4 : decode cX7_bestFor 4 = .ok (.iload_n 1, 1) := by decide +kernel
theorem dX7_bestFor_5 : decode cX7_bestFor 5 = .ok (.invokevirtual 69, 3) := by decide +kernel
theorem dX7_bestFor_8 : decode cX7_bestFor 8 = .ok (.astore 4, 2) := by decide +kernel
theorem dX7_bestFor_10 : decode cX7_bestFor 10 = .ok (.aload 4, 2) := by decide +kernel
theorem dX7_bestFor_12 : decode cX7_bestFor 12 = .ok (.ifnonnull 9, 3) := by decide +kernel
theorem dX7_bestFor_15 : decode cX7_bestFor 15 = .ok (.aload_n 0, 1) := by decide +kernel
theorem dX7_bestFor_16 : decode cX7_bestFor 16 = .ok (.iconst (-1), 1) := by decide +kernel
theorem dX7_bestFor_17 : decode cX7_bestFor 17 = .ok (.invokevirtual 43, 3) := by decide +kernel
theorem dX7_bestFor_20 : decode cX7_bestFor 20 = .ok (.ireturn, 1) := by decide +kernel
theorem dX7_bestFor_21 : decode cX7_bestFor 21 = .ok (.iload_n 3, 1) := by decide +kernel
theorem dX7_bestFor_22 : decode cX7_bestFor 22 = .ok (.invokestatic 132, 3) := by decide +kernel
theorem dX7_bestFor_25 : decode cX7_bestFor 25 = .ok (.ifCond .ne 10, 3) := by decide +kernel
theorem dX7_bestFor_28 : decode cX7_bestFor 28 = .ok (.aload_n 0, 1) := by decide +kernel
theorem dX7_bestFor_29 : decode cX7_bestFor 29 = .ok (.bipush (-2), 2) := by decide +kernel
theorem dX7_bestFor_31 : decode cX7_bestFor 31 = .ok (.invokevirtual 43, 3) := by decide +kernel
theorem dX7_bestFor_34 : decode cX7_bestFor 34 = .ok (.ireturn, 1) := by decide +kernel
theorem dX7_bestFor_35 : decode cX7_bestFor 35 = .ok (.iload_n 2, 1) := by decide +kernel
theorem dX7_bestFor_36 : decode cX7_bestFor 36 = .ok (.invokestatic 144, 3) := by decide +kernel
theorem dX7_bestFor_39 : decode cX7_bestFor 39 = .ok (.istore 5, 2) := by decide +kernel
theorem dX7_bestFor_41 : decode cX7_bestFor 41 = .ok (.iload 5, 2) := by decide +kernel
theorem dX7_bestFor_43 : decode cX7_bestFor 43 = .ok (.ifCond .eq 10, 3) := by decide +kernel
theorem dX7_bestFor_46 : decode cX7_bestFor 46 = .ok (.aload_n 0, 1) := by decide +kernel
theorem dX7_bestFor_47 : decode cX7_bestFor 47 = .ok (.iload 5, 2) := by decide +kernel
theorem dX7_bestFor_49 : decode cX7_bestFor 49 = .ok (.invokevirtual 43, 3) := by decide +kernel
theorem dX7_bestFor_52 : decode cX7_bestFor 52 = .ok (.ireturn, 1) := by decide +kernel
theorem dX7_bestFor_53 : decode cX7_bestFor 53 = .ok (.iload_n 3, 1) := by decide +kernel
theorem dX7_bestFor_54 : decode cX7_bestFor 54 = .ok (.ifCond .ne 13, 3) := by decide +kernel
theorem dX7_bestFor_57 : decode cX7_bestFor 57 = .ok (.aload_n 0, 1) := by decide +kernel
theorem dX7_bestFor_58 : decode cX7_bestFor 58 = .ok (.aload 4, 2) := by decide +kernel
theorem dX7_bestFor_60 : decode cX7_bestFor 60 = .ok (.iload_n 2, 1) := by decide +kernel
theorem dX7_bestFor_61 : decode cX7_bestFor 61 = .ok (.invokevirtual 250, 3) := by decide +kernel
theorem dX7_bestFor_64 : decode cX7_bestFor 64 = .ok (.goto 10, 3) := by decide +kernel
theorem dX7_bestFor_67 : decode cX7_bestFor 67 = .ok (.aload_n 0, 1) := by decide +kernel
theorem dX7_bestFor_68 : decode cX7_bestFor 68 = .ok (.aload 4, 2) := by decide +kernel
theorem dX7_bestFor_70 : decode cX7_bestFor 70 = .ok (.iload_n 2, 1) := by decide +kernel
theorem dX7_bestFor_71 : decode cX7_bestFor 71 = .ok (.invokevirtual 254, 3) := by decide +kernel
theorem dX7_bestFor_74 : decode cX7_bestFor 74 = .ok (.ireturn, 1) := by decide +kernel
theorem dX7_ear_0 : decode cX7_ear 0 = .ok (.iload_n 1, 1) := by decide +kernel
theorem dX7_ear_1 : decode cX7_ear 1 = .ok (.ifCond .lt 8, 3) := by decide +kernel
theorem dX7_ear_4 : decode cX7_ear 4 = .ok (.iload_n 1, 1) := by decide +kernel
theorem dX7_ear_5 : decode cX7_ear 5 = .ok (.iconst 2, 1) := by decide +kernel
theorem dX7_ear_6 : decode cX7_ear 6 = .ok (.if_icmp .le 10, 3) := by decide +kernel
theorem dX7_ear_9 : decode cX7_ear 9 = .ok (.aload_n 0, 1) := by decide +kernel
theorem dX7_ear_10 : decode cX7_ear 10 = .ok (.bipush (-2), 2) := by decide +kernel
theorem dX7_ear_12 : decode cX7_ear 12 = .ok (.invokevirtual 43, 3) := by decide +kernel
theorem dX7_ear_15 : decode cX7_ear 15 = .ok (.ireturn, 1) := by decide +kernel
theorem dX7_ear_16 : decode cX7_ear 16 = .ok (.aload_n 0, 1) := by decide +kernel
theorem dX7_ear_17 : decode cX7_ear 17 = .ok (.getfield 23, 3) := by decide +kernel
theorem dX7_ear_20 : decode cX7_ear 20 = .ok (.getfield 119, 3) := by decide +kernel
theorem dX7_ear_23 : decode cX7_ear 23 = .ok (.getfield 165, 3) := by decide +kernel
theorem dX7_ear_26 : decode cX7_ear 26 = .ok (.ifCond .ne 10, 3) := by decide +kernel
theorem dX7_ear_29 : decode cX7_ear 29 = .ok (.aload_n 0, 1) := by decide +kernel
theorem dX7_ear_30 : decode cX7_ear 30 = .ok (.bipush (-3), 2) := by decide +kernel
theorem dX7_ear_32 : decode cX7_ear 32 = .ok (.invokevirtual 43, 3) := by decide +kernel
theorem dX7_ear_35 : decode cX7_ear 35 = .ok (.ireturn, 1) := by decide +kernel
theorem dX7_ear_36 : decode cX7_ear 36 = .ok (.bipush (-9), 2) := by decide +kernel
theorem dX7_ear_38 : decode cX7_ear 38 = .ok (.istore_n 2, 1) := by decide +kernel
theorem dX7_ear_39 : decode cX7_ear 39 = .ok (.bipush (-9), 2) := by decide +kernel
theorem dX7_ear_41 : decode cX7_ear 41 = .ok (.istore_n 3, 1) := by decide +kernel
theorem dX7_ear_42 : decode cX7_ear 42 = .ok (.iconst 0, 1) := by decide +kernel
theorem dX7_ear_43 : decode cX7_ear 43 = .ok (.istore 4, 2) := by decide +kernel
theorem dX7_ear_45 : decode cX7_ear 45 = .ok (.iload 4, 2) := by decide +kernel
theorem dX7_ear_47 : decode cX7_ear 47 = .ok (.bipush 6, 2) := by decide +kernel
theorem dX7_ear_49 : decode cX7_ear 49 = .ok (.if_icmp .ge 51, 3) := by decide +kernel
theorem dX7_ear_52 : decode cX7_ear 52 = .ok (.aload_n 0, 1) := by decide +kernel
theorem dX7_ear_53 : decode cX7_ear 53 = .ok (.getfield 23, 3) := by decide +kernel
theorem dX7_ear_56 : decode cX7_ear 56 = .ok (.iload 4, 2) := by decide +kernel
theorem dX7_ear_58 : decode cX7_ear 58 = .ok (.invokevirtual 69, 3) := by decide +kernel
theorem dX7_ear_61 : decode cX7_ear 61 = .ok (.astore 5, 2) := by decide +kernel
theorem dX7_ear_63 : decode cX7_ear 63 = .ok (.aload 5, 2) := by decide +kernel
theorem dX7_ear_65 : decode cX7_ear 65 = .ok (.ifnull 29, 3) := by decide +kernel
theorem dX7_ear_68 : decode cX7_ear 68 = .ok (.aload_n 0, 1) := by decide +kernel
theorem dX7_ear_69 : decode cX7_ear 69 = .ok (.aload 5, 2) := by decide +kernel
theorem dX7_ear_71 : decode cX7_ear 71 = .ok (.invokevirtual 257, 3) := by decide +kernel
theorem dX7_ear_74 : decode cX7_ear 74 = .ok (.istore 6, 2) := by decide +kernel
theorem dX7_ear_76 : decode cX7_ear 76 = .ok (.iload_n 2, 1) := by decide +kernel
theorem dX7_ear_77 : decode cX7_ear 77 = .ok (.bipush (-9), 2) := by decide +kernel
theorem dX7_ear_79 : decode cX7_ear 79 = .ok (.if_icmp .eq 9, 3) := by decide +kernel
theorem dX7_ear_82 : decode cX7_ear 82 = .ok (.iload 6, 2) := by decide +kernel
theorem dX7_ear_84 : decode cX7_ear 84 = .ok (.iload_n 3, 1) := by decide +kernel
theorem dX7_ear_85 : decode cX7_ear 85 = .ok (.if_icmp .ge 9, 3) := by decide +kernel
theorem dX7_ear_88 : decode cX7_ear 88 = .ok (.iload 6, 2) := by decide +kernel
theorem dX7_ear_90 : decode cX7_ear 90 = .ok (.istore_n 3, 1) := by decide +kernel
theorem dX7_ear_91 : decode cX7_ear 91 = .ok (.iload 4, 2) := by decide +kernel
theorem dX7_ear_93 : decode cX7_ear 93 = .ok (.istore_n 2, 1) := by decide +kernel
theorem dX7_ear_94 : decode cX7_ear 94 = .ok (.iinc 4 1, 3) := by decide +kernel
theorem dX7_ear_97 : decode cX7_ear 97 = .ok (.goto (-52), 3) := by decide +kernel
theorem dX7_ear_100 : decode cX7_ear 100 = .ok (.iload_n 1, 1) := by decide +kernel
theorem dX7_ear_101 : decode cX7_ear 101 = .ok (.iconst 1, 1) := by decide +kernel
theorem dX7_ear_102 : decode cX7_ear 102 = .ok (.if_icmp .ne 9, 3) := by decide +kernel
theorem dX7_ear_105 : decode cX7_ear 105 = .ok (.iload_n 2, 1) := by decide +kernel
theorem dX7_ear_106 : decode cX7_ear 106 = .ok (.bipush (-9), 2) := by decide +kernel
theorem dX7_ear_108 : decode cX7_ear 108 = .ok (.if_icmp .ne 13, 3) := by decide +kernel
theorem dX7_ear_111 : decode cX7_ear 111 = .ok (.iload_n 1, 1) := by decide +kernel
theorem dX7_ear_112 : decode cX7_ear 112 = .ok (.ifCond .ne 7, 3) := by decide +kernel
theorem dX7_ear_115 : decode cX7_ear 115 = .ok (.iload_n 2, 1) := by decide +kernel
theorem dX7_ear_116 : decode cX7_ear 116 = .ok (.goto 4, 3) := by decide +kernel
theorem dX7_ear_119 : decode cX7_ear 119 = .ok (.iload_n 3, 1) := by decide +kernel
theorem dX7_ear_120 : decode cX7_ear 120 = .ok (.ireturn, 1) := by decide +kernel
theorem dX7_ear_121 : decode cX7_ear 121 = .ok (.iload_n 3, 1) := by decide +kernel
theorem dX7_ear_122 : decode cX7_ear 122 = .ok (.aload_n 0, 1) := by decide +kernel
theorem dX7_ear_123 : decode cX7_ear 123 = .ok (.getfield 23, 3) := by decide +kernel
theorem dX7_ear_126 : decode cX7_ear 126 = .ok (.getfield 219, 3) := by decide +kernel
theorem dX7_ear_129 : decode cX7_ear 129 = .ok (.getfield 228, 3) := by decide +kernel
theorem dX7_ear_132 : decode cX7_ear 132 = .ok (.aload_n 0, 1) := by decide +kernel
theorem dX7_ear_133 : decode cX7_ear 133 = .ok (.getfield 23, 3) := by decide +kernel
theorem dX7_ear_136 : decode cX7_ear 136 = .ok (.getfield 219, 3) := by decide +kernel
theorem dX7_ear_139 : decode cX7_ear 139 = .ok (.invokevirtual 260, 3) := by decide +kernel
theorem dX7_ear_142 : decode cX7_ear 142 = .ok (.imul, 1) := by decide +kernel
theorem dX7_ear_143 : decode cX7_ear 143 = .ok (.if_icmp .le 7, 3) := by decide +kernel
theorem dX7_ear_146 : decode cX7_ear 146 = .ok (.iconst 1, 1) := by decide +kernel
theorem dX7_ear_147 : decode cX7_ear 147 = .ok (.goto 4, 3) := by decide +kernel
theorem dX7_ear_150 : decode cX7_ear 150 = .ok (.iconst 0, 1) := by decide +kernel
theorem dX7_ear_151 : decode cX7_ear 151 = .ok (.ireturn, 1) := by decide +kernel
theorem dX7_stagger_0 : decode cX7_stagger 0 = .ok (.aload_n 0, 1) := by decide +kernel
theorem dX7_stagger_1 : decode cX7_stagger 1 = .ok (.getfield 23, 3) := by decide +kernel
theorem dX7_stagger_4 : decode cX7_stagger 4 = .ok (.iload_n 1, 1) := by decide +kernel
theorem dX7_stagger_5 : decode cX7_stagger 5 = .ok (.invokevirtual 106, 3) := by decide +kernel
theorem dX7_stagger_8 : decode cX7_stagger 8 = .ok (.astore_n 2, 1) := by decide +kernel
theorem dX7_stagger_9 : decode cX7_stagger 9 = .ok (.aload_n 2, 1) := by decide +kernel
theorem dX7_stagger_10 : decode cX7_stagger 10 = .ok (.ifnonnull 9, 3) := by decide +kernel
theorem dX7_stagger_13 : decode cX7_stagger 13 = .ok (.aload_n 0, 1) := by decide +kernel
theorem dX7_stagger_14 : decode cX7_stagger 14 = .ok (.iconst (-1), 1) := by decide +kernel
theorem dX7_stagger_15 : decode cX7_stagger 15 = .ok (.invokevirtual 43, 3) := by decide +kernel
theorem dX7_stagger_18 : decode cX7_stagger 18 = .ok (.ireturn, 1) := by decide +kernel
theorem dX7_stagger_19 : decode cX7_stagger 19 = .ok (.aload_n 0, 1) := by decide +kernel
theorem dX7_stagger_20 : decode cX7_stagger 20 = .ok (.getfield 23, 3) := by decide +kernel
theorem dX7_stagger_23 : decode cX7_stagger 23 = .ok (.getfield 119, 3) := by decide +kernel
theorem dX7_stagger_26 : decode cX7_stagger 26 = .ok (.getfield 165, 3) := by decide +kernel
theorem dX7_stagger_29 : decode cX7_stagger 29 = .ok (.ifCond .ne 10, 3) := by decide +kernel
theorem dX7_stagger_32 : decode cX7_stagger 32 = .ok (.aload_n 0, 1) := by decide +kernel
theorem dX7_stagger_33 : decode cX7_stagger 33 = .ok (.bipush (-3), 2) := by decide +kernel
theorem dX7_stagger_35 : decode cX7_stagger 35 = .ok (.invokevirtual 43, 3) := by decide +kernel
theorem dX7_stagger_38 : decode cX7_stagger 38 = .ok (.ireturn, 1) := by decide +kernel
theorem dX7_stagger_39 : decode cX7_stagger 39 = .ok (.iconst 0, 1) := by decide +kernel
theorem dX7_stagger_40 : decode cX7_stagger 40 = .ok (.istore_n 3, 1) := by decide +kernel
theorem dX7_stagger_41 : decode cX7_stagger 41 = .ok (.iload_n 3, 1) := by decide +kernel
theorem dX7_stagger_42 : decode cX7_stagger 42 = .ok (.sipush 990, 3) := by decide +kernel
theorem dX7_stagger_45 : decode cX7_stagger 45 = .ok (.if_icmp .gt 34, 3) := by decide +kernel
theorem dX7_stagger_48 : decode cX7_stagger 48 = .ok (.aload_n 0, 1) := by decide +kernel
theorem dX7_stagger_49 : decode cX7_stagger 49 = .ok (.iconst (-1), 1) := by decide +kernel
theorem dX7_stagger_50 : decode cX7_stagger 50 = .ok (.invokevirtual 207, 3) := by decide +kernel
theorem dX7_stagger_53 : decode cX7_stagger 53 = .ok (.aload_n 0, 1) := by decide +kernel
theorem dX7_stagger_54 : decode cX7_stagger 54 = .ok (.getfield 35, 3) := by decide +kernel
theorem dX7_stagger_57 : decode cX7_stagger 57 = .ok (.aload_n 2, 1) := by decide +kernel
theorem dX7_stagger_58 : decode cX7_stagger 58 = .ok (.iload_n 3, 1) := by decide +kernel
theorem dX7_stagger_59 : decode cX7_stagger 59 = .ok (.invokevirtual 263, 3) := by decide +kernel
theorem dX7_stagger_62 : decode cX7_stagger 62 = .ok (.aload_n 0, 1) := by decide +kernel
theorem dX7_stagger_63 : decode cX7_stagger 63 = .ok (.invokevirtual 234, 3) := by decide +kernel
theorem dX7_stagger_66 : decode cX7_stagger 66 = .ok (.bipush (-9), 2) := by decide +kernel
theorem dX7_stagger_68 : decode cX7_stagger 68 = .ok (.if_icmp .ne 5, 3) := by decide +kernel
theorem dX7_stagger_71 : decode cX7_stagger 71 = .ok (.iload_n 3, 1) := by decide +kernel
theorem dX7_stagger_72 : decode cX7_stagger 72 = .ok (.ireturn, 1) := by decide +kernel
theorem dX7_stagger_73 : decode cX7_stagger 73 = .ok (.iinc 3 10, 3) := by decide +kernel
theorem dX7_stagger_76 : decode cX7_stagger 76 = .ok (.goto (-35), 3) := by decide +kernel
theorem dX7_stagger_79 : decode cX7_stagger 79 = .ok (.bipush (-9), 2) := by decide +kernel
theorem dX7_stagger_81 : decode cX7_stagger 81 = .ok (.ireturn, 1) := by decide +kernel
theorem dX7_trust_0 : decode cX7_trust 0 = .ok (.aload_n 0, 1) := by decide +kernel
theorem dX7_trust_1 : decode cX7_trust 1 = .ok (.getfield 23, 3) := by decide +kernel
theorem dX7_trust_4 : decode cX7_trust 4 = .ok (.getfield 119, 3) := by decide +kernel
theorem dX7_trust_7 : decode cX7_trust 7 = .ok (.getfield 165, 3) := by decide +kernel
theorem dX7_trust_10 : decode cX7_trust 10 = .ok (.ifCond .ne 10, 3) := by decide +kernel
theorem dX7_trust_13 : decode cX7_trust 13 = .ok (.aload_n 0, 1) := by decide +kernel
theorem dX7_trust_14 : decode cX7_trust 14 = .ok (.bipush (-3), 2) := by decide +kernel
theorem dX7_trust_16 : decode cX7_trust 16 = .ok (.invokevirtual 43, 3) := by decide +kernel
theorem dX7_trust_19 : decode cX7_trust 19 = .ok (.ireturn, 1) := by decide +kernel
theorem dX7_trust_20 : decode cX7_trust 20 = .ok (.iload_n 1, 1) := by decide +kernel
theorem dX7_trust_21 : decode cX7_trust 21 = .ok (.ifCond .ge 10, 3) := by decide +kernel
theorem dX7_trust_24 : decode cX7_trust 24 = .ok (.aload_n 0, 1) := by decide +kernel
theorem dX7_trust_25 : decode cX7_trust 25 = .ok (.bipush (-4), 2) := by decide +kernel
theorem dX7_trust_27 : decode cX7_trust 27 = .ok (.invokevirtual 43, 3) := by decide +kernel
theorem dX7_trust_30 : decode cX7_trust 30 = .ok (.ireturn, 1) := by decide +kernel
theorem dX7_trust_31 : decode cX7_trust 31 = .ok (.iload_n 1, 1) := by decide +kernel
theorem dX7_trust_32 : decode cX7_trust 32 = .ok (.sipush 9999, 3) := by decide +kernel
theorem dX7_trust_35 : decode cX7_trust 35 = .ok (.if_icmp .le 10, 3) := by decide +kernel
theorem dX7_trust_38 : decode cX7_trust 38 = .ok (.aload_n 0, 1) := by decide +kernel
theorem dX7_trust_39 : decode cX7_trust 39 = .ok (.bipush (-6), 2) := by decide +kernel
theorem dX7_trust_41 : decode cX7_trust 41 = .ok (.invokevirtual 43, 3) := by decide +kernel
theorem dX7_trust_44 : decode cX7_trust 44 = .ok (.ireturn, 1) := by decide +kernel
theorem dX7_trust_45 : decode cX7_trust 45 = .ok (.aload_n 0, 1) := by decide +kernel
theorem dX7_trust_46 : decode cX7_trust 46 = .ok (.iconst 1, 1) := by decide +kernel
theorem dX7_trust_47 : decode cX7_trust 47 = .ok (.invokevirtual 267, 3) := by decide +kernel
theorem dX7_trust_50 : decode cX7_trust 50 = .ok (.istore_n 2, 1) := by decide +kernel
theorem dX7_trust_51 : decode cX7_trust 51 = .ok (.getstatic 270, 3) := by decide +kernel
theorem dX7_trust_54 : decode cX7_trust 54 = .ok (.astore_n 3, 1) := by decide +kernel
theorem dX7_trust_55 : decode cX7_trust 55 = .ok (.aload_n 3, 1) := by decide +kernel
theorem dX7_trust_56 : decode cX7_trust 56 = .ok (.arraylength, 1) := by decide +kernel
theorem dX7_trust_57 : decode cX7_trust 57 = .ok (.istore 4, 2) := by decide +kernel
theorem dX7_trust_59 : decode cX7_trust 59 = .ok (.iconst 0, 1) := by decide +kernel
theorem dX7_trust_60 : decode cX7_trust 60 = .ok (.istore 5, 2) := by decide +kernel
theorem dX7_trust_62 : decode cX7_trust 62 = .ok (.iload 5, 2) := by decide +kernel
theorem dX7_trust_64 : decode cX7_trust 64 = .ok (.iload 4, 2) := by decide +kernel
theorem dX7_trust_66 : decode cX7_trust 66 = .ok (.if_icmp .ge 33, 3) := by decide +kernel
theorem dX7_trust_69 : decode cX7_trust 69 = .ok (.aload_n 3, 1) := by decide +kernel
theorem dX7_trust_70 : decode cX7_trust 70 = .ok (.iload 5, 2) := by decide +kernel
theorem dX7_trust_72 : decode cX7_trust 72 = .ok (.iaload, 1) := by decide +kernel
theorem dX7_trust_73 : decode cX7_trust 73 = .ok (.istore 6, 2) := by decide +kernel
theorem dX7_trust_75 : decode cX7_trust 75 = .ok (.aload_n 0, 1) := by decide +kernel
theorem dX7_trust_76 : decode cX7_trust 76 = .ok (.iload 6, 2) := by decide +kernel
theorem dX7_trust_78 : decode cX7_trust 78 = .ok (.invokevirtual 267, 3) := by decide +kernel
theorem dX7_trust_81 : decode cX7_trust 81 = .ok (.iload_n 2, 1) := by decide +kernel
theorem dX7_trust_82 : decode cX7_trust 82 = .ok (.isub, 1) := by decide +kernel
theorem dX7_trust_83 : decode cX7_trust 83 = .ok (.invokestatic 245, 3) := by decide +kernel
theorem dX7_trust_86 : decode cX7_trust 86 = .ok (.iload_n 1, 1) := by decide +kernel
theorem dX7_trust_87 : decode cX7_trust 87 = .ok (.if_icmp .gt 6, 3) := by decide +kernel
theorem dX7_trust_90 : decode cX7_trust 90 = .ok (.iload 6, 2) := by decide +kernel
theorem dX7_trust_92 : decode cX7_trust 92 = .ok (.ireturn, 1) := by decide +kernel
theorem dX7_trust_93 : decode cX7_trust 93 = .ok (.iinc 5 1, 3) := by decide +kernel
theorem dX7_trust_96 : decode cX7_trust 96 = .ok (.goto (-34), 3) := by decide +kernel
theorem dX7_trust_99 : decode cX7_trust 99 = .ok (.iconst 1, 1) := by decide +kernel
theorem dX7_trust_100 : decode cX7_trust 100 = .ok (.ireturn, 1) := by decide +kernel
theorem dX7_leg_0 : decode cX7_leg 0 = .ok (.iload_n 1, 1) := by decide +kernel
theorem dX7_leg_1 : decode cX7_leg 1 = .ok (.invokestatic 128, 3) := by decide +kernel
theorem dX7_leg_4 : decode cX7_leg 4 = .ok (.ifCond .ne 9, 3) := by decide +kernel
theorem dX7_leg_7 : decode cX7_leg 7 = .ok (.aload_n 0, 1) := by decide +kernel
theorem dX7_leg_8 : decode cX7_leg 8 = .ok (.iconst (-1), 1) := by decide +kernel
theorem dX7_leg_9 : decode cX7_leg 9 = .ok (.invokevirtual 43, 3) := by decide +kernel
theorem dX7_leg_12 : decode cX7_leg 12 = .ok (.ireturn, 1) := by decide +kernel
theorem dX7_leg_13 : decode cX7_leg 13 = .ok (.iload_n 2, 1) := by decide +kernel
theorem dX7_leg_14 : decode cX7_leg 14 = .ok (.iconst 1, 1) := by decide +kernel
theorem dX7_leg_15 : decode cX7_leg 15 = .ok (.if_icmp .ge 10, 3) := by decide +kernel
theorem dX7_leg_18 : decode cX7_leg 18 = .ok (.aload_n 0, 1) := by decide +kernel
theorem dX7_leg_19 : decode cX7_leg 19 = .ok (.bipush (-4), 2) := by decide +kernel
theorem dX7_leg_21 : decode cX7_leg 21 = .ok (.invokevirtual 43, 3) := by decide +kernel
theorem dX7_leg_24 : decode cX7_leg 24 = .ok (.ireturn, 1) := by decide +kernel
theorem dX7_leg_25 : decode cX7_leg 25 = .ok (.iload_n 2, 1) := by decide +kernel
theorem dX7_leg_26 : decode cX7_leg 26 = .ok (.sipush 999, 3) := by decide +kernel
theorem dX7_leg_29 : decode cX7_leg 29 = .ok (.if_icmp .gt 14, 3) := by decide +kernel
theorem dX7_leg_32 : decode cX7_leg 32 = .ok (.aload_n 0, 1) := by decide +kernel
theorem dX7_leg_33 : decode cX7_leg 33 = .ok (.getfield 23, 3) := by decide +kernel
theorem dX7_leg_36 : decode cX7_leg 36 = .ok (.getfield 273, 3) := by decide +kernel
theorem dX7_leg_39 : decode cX7_leg 39 = .ok (.iconst 4, 1) := by decide +kernel
theorem dX7_leg_40 : decode cX7_leg 40 = .ok (.if_icmp .lt 10, 3) := by decide +kernel
theorem dX7_leg_43 : decode cX7_leg 43 = .ok (.aload_n 0, 1) := by decide +kernel
theorem dX7_leg_44 : decode cX7_leg 44 = .ok (.bipush (-6), 2) := by decide +kernel
theorem dX7_leg_46 : decode cX7_leg 46 = .ok (.invokevirtual 43, 3) := by decide +kernel
theorem dX7_leg_49 : decode cX7_leg 49 = .ok (.ireturn, 1) := by decide +kernel
theorem dX7_leg_50 : decode cX7_leg 50 = .ok (.aload_n 0, 1) := by decide +kernel
theorem dX7_leg_51 : decode cX7_leg 51 = .ok (.getfield 23, 3) := by decide +kernel
theorem dX7_leg_54 : decode cX7_leg 54 = .ok (.iload_n 1, 1) := by decide +kernel
theorem dX7_leg_55 : decode cX7_leg 55 = .ok (.iload_n 2, 1) := by decide +kernel
theorem dX7_leg_56 : decode cX7_leg 56 = .ok (.invokevirtual 276, 3) := by decide +kernel
theorem dX7_leg_59 : decode cX7_leg 59 = .ok (.ireturn, 1) := by decide +kernel
theorem dX7_legs_0 : decode cX7_legs 0 = .ok (.aload_n 0, 1) := by decide +kernel
theorem dX7_legs_1 : decode cX7_legs 1 = .ok (.getfield 23, 3) := by decide +kernel
theorem dX7_legs_4 : decode cX7_legs 4 = .ok (.iload_n 1, 1) := by decide +kernel
theorem dX7_legs_5 : decode cX7_legs 5 = .ok (.invokevirtual 69, 3) := by decide +kernel
theorem dX7_legs_8 : decode cX7_legs 8 = .ok (.astore_n 3, 1) := by decide +kernel
theorem dX7_legs_9 : decode cX7_legs 9 = .ok (.aload_n 3, 1) := by decide +kernel
theorem dX7_legs_10 : decode cX7_legs 10 = .ok (.ifnonnull 9, 3) := by decide +kernel
theorem dX7_legs_13 : decode cX7_legs 13 = .ok (.aload_n 0, 1) := by decide +kernel
theorem dX7_legs_14 : decode cX7_legs 14 = .ok (.iconst (-1), 1) := by decide +kernel
theorem dX7_legs_15 : decode cX7_legs 15 = .ok (.invokevirtual 43, 3) := by decide +kernel
theorem dX7_legs_18 : decode cX7_legs 18 = .ok (.ireturn, 1) := by decide +kernel
theorem dX7_legs_19 : decode cX7_legs 19 = .ok (.iload_n 2, 1) := by decide +kernel
theorem dX7_legs_20 : decode cX7_legs 20 = .ok (.invokestatic 144, 3) := by decide +kernel
theorem dX7_legs_23 : decode cX7_legs 23 = .ok (.istore 4, 2) := by decide +kernel
theorem dX7_legs_25 : decode cX7_legs 25 = .ok (.iload 4, 2) := by decide +kernel
theorem dX7_legs_27 : decode cX7_legs 27 = .ok (.ifCond .eq 10, 3) := by decide +kernel
theorem dX7_legs_30 : decode cX7_legs 30 = .ok (.aload_n 0, 1) := by decide +kernel
theorem dX7_legs_31 : decode cX7_legs 31 = .ok (.iload 4, 2) := by decide +kernel
theorem dX7_legs_33 : decode cX7_legs 33 = .ok (.invokevirtual 43, 3) := by decide +kernel
theorem dX7_legs_36 : decode cX7_legs 36 = .ok (.ireturn, 1) := by decide +kernel
theorem dX7_legs_37 : decode cX7_legs 37 = .ok (.aload_n 0, 1) := by decide +kernel
theorem dX7_legs_38 : decode cX7_legs 38 = .ok (.getfield 23, 3) := by decide +kernel
theorem dX7_legs_41 : decode cX7_legs 41 = .ok (.getfield 273, 3) := by decide +kernel
theorem dX7_legs_44 : decode cX7_legs 44 = .ok (.ifCond .ne 10, 3) := by decide +kernel
theorem dX7_legs_47 : decode cX7_legs 47 = .ok (.aload_n 0, 1) := by decide +kernel
theorem dX7_legs_48 : decode cX7_legs 48 = .ok (.bipush (-3), 2) := by decide +kernel
theorem dX7_legs_50 : decode cX7_legs 50 = .ok (.invokevirtual 43, 3) := by decide +kernel
theorem dX7_legs_53 : decode cX7_legs 53 = .ok (.ireturn, 1) := by decide +kernel
theorem dX7_legs_54 : decode cX7_legs 54 = .ok (.aload_n 0, 1) := by decide +kernel
theorem dX7_legs_55 : decode cX7_legs 55 = .ok (.aload_n 3, 1) := by decide +kernel
theorem dX7_legs_56 : decode cX7_legs 56 = .ok (.iload_n 2, 1) := by decide +kernel
theorem dX7_legs_57 : decode cX7_legs 57 = .ok (.invokevirtual 279, 3) := by decide +kernel
theorem dX7_legs_60 : decode cX7_legs 60 = .ok (.istore 5, 2) := by decide +kernel
theorem dX7_legs_62 : decode cX7_legs 62 = .ok (.aload_n 0, 1) := by decide +kernel
theorem dX7_legs_63 : decode cX7_legs 63 = .ok (.getfield 23, 3) := by decide +kernel
theorem dX7_legs_66 : decode cX7_legs 66 = .ok (.iconst 0, 1) := by decide +kernel
theorem dX7_legs_67 : decode cX7_legs 67 = .ok (.putfield 273, 3) := by decide +kernel
theorem dX7_legs_70 : decode cX7_legs 70 = .ok (.iload 5, 2) := by decide +kernel
theorem dX7_legs_72 : decode cX7_legs 72 = .ok (.ireturn, 1) := by decide +kernel
theorem dX7_draws_0 : decode cX7_draws 0 = .ok (.aload_n 0, 1) := by decide +kernel
theorem dX7_draws_1 : decode cX7_draws 1 = .ok (.getfield 23, 3) := by decide +kernel
theorem dX7_draws_4 : decode cX7_draws 4 = .ok (.iload_n 1, 1) := by decide +kernel
theorem dX7_draws_5 : decode cX7_draws 5 = .ok (.invokevirtual 69, 3) := by decide +kernel
theorem dX7_draws_8 : decode cX7_draws 8 = .ok (.astore 7, 2) := by decide +kernel
theorem dX7_draws_10 : decode cX7_draws 10 = .ok (.aload 7, 2) := by decide +kernel
theorem dX7_draws_12 : decode cX7_draws 12 = .ok (.ifnull 10, 3) := by decide +kernel
theorem dX7_draws_15 : decode cX7_draws 15 = .ok (.iload_n 2, 1) := by decide +kernel
theorem dX7_draws_16 : decode cX7_draws 16 = .ok (.invokestatic 128, 3) := by decide +kernel
theorem dX7_draws_19 : decode cX7_draws 19 = .ok (.ifCond .ne 9, 3) := by decide +kernel
theorem dX7_draws_22 : decode cX7_draws 22 = .ok (.aload_n 0, 1) := by decide +kernel
theorem dX7_draws_23 : decode cX7_draws 23 = .ok (.iconst (-1), 1) := by decide +kernel
theorem dX7_draws_24 : decode cX7_draws 24 = .ok (.invokevirtual 43, 3) := by decide +kernel
theorem dX7_draws_27 : decode cX7_draws 27 = .ok (.ireturn, 1) := by decide +kernel
theorem dX7_draws_28 : decode cX7_draws 28 = .ok (.iload 6, 2) := by decide +kernel
theorem dX7_draws_30 : decode cX7_draws 30 = .ok (.invokestatic 132, 3) := by decide +kernel
theorem dX7_draws_33 : decode cX7_draws 33 = .ok (.ifCond .ne 10, 3) := by decide +kernel
theorem dX7_draws_36 : decode cX7_draws 36 = .ok (.aload_n 0, 1) := by decide +kernel
theorem dX7_draws_37 : decode cX7_draws 37 = .ok (.bipush (-2), 2) := by decide +kernel
theorem dX7_draws_39 : decode cX7_draws 39 = .ok (.invokevirtual 43, 3) := by decide +kernel
theorem dX7_draws_42 : decode cX7_draws 42 = .ok (.ireturn, 1) := by decide +kernel
theorem dX7_draws_43 : decode cX7_draws 43 = .ok (.iload_n 3, 1) := by decide +kernel
theorem dX7_draws_44 : decode cX7_draws 44 = .ok (.iconst 1, 1) := by decide +kernel
theorem dX7_draws_45 : decode cX7_draws 45 = .ok (.if_icmp .lt 8, 3) := by decide +kernel
theorem dX7_draws_48 : decode cX7_draws 48 = .ok (.iload 5, 2) := by decide +kernel
theorem dX7_draws_50 : decode cX7_draws 50 = .ok (.ifCond .ge 10, 3) := by decide +kernel
theorem dX7_draws_53 : decode cX7_draws 53 = .ok (.aload_n 0, 1) := by decide +kernel
theorem dX7_draws_54 : decode cX7_draws 54 = .ok (.bipush (-4), 2) := by decide +kernel
theorem dX7_draws_56 : decode cX7_draws 56 = .ok (.invokevirtual 43, 3) := by decide +kernel
theorem dX7_draws_59 : decode cX7_draws 59 = .ok (.ireturn, 1) := by decide +kernel
theorem dX7_draws_60 : decode cX7_draws 60 = .ok (.iload_n 3, 1) := by decide +kernel
theorem dX7_draws_61 : decode cX7_draws 61 = .ok (.bipush 30, 2) := by decide +kernel
theorem dX7_draws_63 : decode cX7_draws 63 = .ok (.if_icmp .gt 11, 3) := by decide +kernel
theorem dX7_draws_66 : decode cX7_draws 66 = .ok (.iload 5, 2) := by decide +kernel
theorem dX7_draws_68 : decode cX7_draws 68 = .ok (.sipush 9999, 3) := by decide +kernel
theorem dX7_draws_71 : decode cX7_draws 71 = .ok (.if_icmp .le 10, 3) := by decide +kernel
theorem dX7_draws_74 : decode cX7_draws 74 = .ok (.aload_n 0, 1) := by decide +kernel
theorem dX7_draws_75 : decode cX7_draws 75 = .ok (.bipush (-6), 2) := by decide +kernel
theorem dX7_draws_77 : decode cX7_draws 77 = .ok (.invokevirtual 43, 3) := by decide +kernel
theorem dX7_draws_80 : decode cX7_draws 80 = .ok (.ireturn, 1) := by decide +kernel
theorem dX7_draws_81 : decode cX7_draws 81 = .ok (.iload 4, 2) := by decide +kernel
theorem dX7_draws_83 : decode cX7_draws 83 = .ok (.istore 8, 2) := by decide +kernel
theorem dX7_draws_85 : decode cX7_draws 85 = .ok (.iconst 0, 1) := by decide +kernel
theorem dX7_draws_86 : decode cX7_draws 86 = .ok (.istore 9, 2) := by decide +kernel
theorem dX7_draws_88 : decode cX7_draws 88 = .ok (.iconst 0, 1) := by decide +kernel
theorem dX7_draws_89 : decode cX7_draws 89 = .ok (.istore 10, 2) := by decide +kernel
theorem dX7_draws_91 : decode cX7_draws 91 = .ok (.iload 10, 2) := by decide +kernel
theorem dX7_draws_93 : decode cX7_draws 93 = .ok (.iload_n 3, 1) := by decide +kernel
theorem dX7_draws_94 : decode cX7_draws 94 = .ok (.if_icmp .ge 79, 3) := by decide +kernel
theorem dX7_draws_97 : decode cX7_draws 97 = .ok (.iload 8, 2) := by decide +kernel
theorem dX7_draws_99 : decode cX7_draws 99 = .ok (.ldc_w 282, 3) := by decide +kernel
theorem dX7_draws_102 : decode cX7_draws 102 = .ok (.imul, 1) := by decide +kernel
theorem dX7_draws_103 : decode cX7_draws 103 = .ok (.sipush 12345, 3) := by decide +kernel
theorem dX7_draws_106 : decode cX7_draws 106 = .ok (.iadd, 1) := by decide +kernel
theorem dX7_draws_107 : decode cX7_draws 107 = .ok (.istore 8, 2) := by decide +kernel
theorem dX7_draws_109 : decode cX7_draws 109 = .ok (.iconst 1, 1) := by decide +kernel
theorem dX7_draws_110 : decode cX7_draws 110 = .ok (.iload 8, 2) := by decide +kernel
theorem dX7_draws_112 : decode cX7_draws 112 = .ok (.ldc_w 283, 3) := by decide +kernel
theorem dX7_draws_115 : decode cX7_draws 115 = .ok (.iand, 1) := by decide +kernel
theorem dX7_draws_116 : decode cX7_draws 116 = .ok (.ldc_w 284, 3) := by decide +kernel
theorem dX7_draws_119 : decode cX7_draws 119 = .ok (.idiv, 1) := by decide +kernel
theorem dX7_draws_120 : decode cX7_draws 120 = .ok (.sipush 9000, 3) := by decide +kernel
theorem dX7_draws_123 : decode cX7_draws 123 = .ok (.irem, 1) := by decide +kernel
theorem dX7_draws_124 : decode cX7_draws 124 = .ok (.iadd, 1) := by decide +kernel
theorem dX7_draws_125 : decode cX7_draws 125 = .ok (.istore 11, 2) := by decide +kernel
theorem dX7_draws_127 : decode cX7_draws 127 = .ok (.aload_n 0, 1) := by decide +kernel
theorem dX7_draws_128 : decode cX7_draws 128 = .ok (.aload 7, 2) := by decide +kernel
theorem dX7_draws_130 : decode cX7_draws 130 = .ok (.iload 11, 2) := by decide +kernel
theorem dX7_draws_132 : decode cX7_draws 132 = .ok (.iload_n 2, 1) := by decide +kernel
theorem dX7_draws_133 : decode cX7_draws 133 = .ok (.invokevirtual 202, 3) := by decide +kernel
theorem dX7_draws_136 : decode cX7_draws 136 = .ok (.istore 12, 2) := by decide +kernel
theorem dX7_draws_138 : decode cX7_draws 138 = .ok (.iload 6, 2) := by decide +kernel
theorem dX7_draws_140 : decode cX7_draws 140 = .ok (.ifCond .ne 13, 3) := by decide +kernel
theorem dX7_draws_143 : decode cX7_draws 143 = .ok (.iload 12, 2) := by decide +kernel
theorem dX7_draws_145 : decode cX7_draws 145 = .ok (.iload 5, 2) := by decide +kernel
theorem dX7_draws_147 : decode cX7_draws 147 = .ok (.if_icmp .lt 20, 3) := by decide +kernel
theorem dX7_draws_150 : decode cX7_draws 150 = .ok (.goto 14, 3) := by decide +kernel
theorem dX7_draws_153 : decode cX7_draws 153 = .ok (.aload_n 0, 1) := by decide +kernel
theorem dX7_draws_154 : decode cX7_draws 154 = .ok (.getfield 35, 3) := by decide +kernel
theorem dX7_draws_157 : decode cX7_draws 157 = .ok (.getfield 206, 3) := by decide +kernel
theorem dX7_draws_160 : decode cX7_draws 160 = .ok (.iconst 2, 1) := by decide +kernel
theorem dX7_draws_161 : decode cX7_draws 161 = .ok (.if_icmp .ne 6, 3) := by decide +kernel
theorem dX7_draws_164 : decode cX7_draws 164 = .ok (.iinc 9 1, 3) := by decide +kernel
theorem dX7_draws_167 : decode cX7_draws 167 = .ok (.iinc 10 1, 3) := by decide +kernel
theorem dX7_draws_170 : decode cX7_draws 170 = .ok (.goto (-79), 3) := by decide +kernel
theorem dX7_draws_173 : decode cX7_draws 173 = .ok (.iload 9, 2) := by decide +kernel
theorem dX7_draws_175 : decode cX7_draws 175 = .ok (.ireturn, 1) := by decide +kernel
theorem dX7_image_0 : decode cX7_image 0 = .ok (.aload_n 0, 1) := by decide +kernel
theorem dX7_image_1 : decode cX7_image 1 = .ok (.getfield 27, 3) := by decide +kernel
theorem dX7_image_4 : decode cX7_image 4 = .ok (.aload_n 0, 1) := by decide +kernel
theorem dX7_image_5 : decode cX7_image 5 = .ok (.getfield 23, 3) := by decide +kernel
theorem dX7_image_8 : decode cX7_image 8 = .ok (.invokevirtual 285, 3) := by decide +kernel
theorem dX7_image_11 : decode cX7_image 11 = .ok (.aload_n 0, 1) := by decide +kernel
theorem dX7_image_12 : decode cX7_image 12 = .ok (.iconst 1, 1) := by decide +kernel
theorem dX7_image_13 : decode cX7_image 13 = .ok (.putfield 39, 3) := by decide +kernel
theorem dX7_image_16 : decode cX7_image 16 = .ok (.aload_n 0, 1) := by decide +kernel
theorem dX7_image_17 : decode cX7_image 17 = .ok (.getfield 23, 3) := by decide +kernel
theorem dX7_image_20 : decode cX7_image 20 = .ok (.getfield 55, 3) := by decide +kernel
theorem dX7_image_23 : decode cX7_image 23 = .ok (.ireturn, 1) := by decide +kernel
theorem dX7_restore_0 : decode cX7_restore 0 = .ok (.aload_n 0, 1) := by decide +kernel
theorem dX7_restore_1 : decode cX7_restore 1 = .ok (.getfield 39, 3) := by decide +kernel
theorem dX7_restore_4 : decode cX7_restore 4 = .ok (.ifCond .ne 10, 3) := by decide +kernel
theorem dX7_restore_7 : decode cX7_restore 7 = .ok (.aload_n 0, 1) := by decide +kernel
theorem dX7_restore_8 : decode cX7_restore 8 = .ok (.bipush (-3), 2) := by decide +kernel
theorem dX7_restore_10 : decode cX7_restore 10 = .ok (.invokevirtual 43, 3) := by decide +kernel
theorem dX7_restore_13 : decode cX7_restore 13 = .ok (.ireturn, 1) := by decide +kernel
theorem dX7_restore_14 : decode cX7_restore 14 = .ok (.aload_n 0, 1) := by decide +kernel
theorem dX7_restore_15 : decode cX7_restore 15 = .ok (.getfield 23, 3) := by decide +kernel
theorem dX7_restore_18 : decode cX7_restore 18 = .ok (.aload_n 0, 1) := by decide +kernel
theorem dX7_restore_19 : decode cX7_restore 19 = .ok (.getfield 27, 3) := by decide +kernel
theorem dX7_restore_22 : decode cX7_restore 22 = .ok (.invokevirtual 285, 3) := by decide +kernel
theorem dX7_restore_25 : decode cX7_restore 25 = .ok (.aload_n 0, 1) := by decide +kernel
theorem dX7_restore_26 : decode cX7_restore 26 = .ok (.getfield 23, 3) := by decide +kernel
theorem dX7_restore_29 : decode cX7_restore 29 = .ok (.getfield 55, 3) := by decide +kernel
theorem dX7_restore_32 : decode cX7_restore 32 = .ok (.ireturn, 1) := by decide +kernel
theorem dX7_count_0 : decode cX7_count 0 = .ok (.iload_n 1, 1) := by decide +kernel
theorem dX7_count_1 : decode cX7_count 1 = .ok (.tableswitch 113 0 6 #[43, 51, 59, 70, 81, 89, 97], 43) := by decide +kernel
theorem dX7_count_44 : decode cX7_count 44 = .ok (.aload_n 0, 1) := by decide +kernel
theorem dX7_count_45 : decode cX7_count 45 = .ok (.getfield 23, 3) := by decide +kernel
theorem dX7_count_48 : decode cX7_count 48 = .ok (.getfield 55, 3) := by decide +kernel
theorem dX7_count_51 : decode cX7_count 51 = .ok (.ireturn, 1) := by decide +kernel
theorem dX7_count_52 : decode cX7_count 52 = .ok (.aload_n 0, 1) := by decide +kernel
theorem dX7_count_53 : decode cX7_count 53 = .ok (.getfield 23, 3) := by decide +kernel
theorem dX7_count_56 : decode cX7_count 56 = .ok (.getfield 90, 3) := by decide +kernel
theorem dX7_count_59 : decode cX7_count 59 = .ok (.ireturn, 1) := by decide +kernel
theorem dX7_count_60 : decode cX7_count 60 = .ok (.aload_n 0, 1) := by decide +kernel
theorem dX7_count_61 : decode cX7_count 61 = .ok (.getfield 23, 3) := by decide +kernel
theorem dX7_count_64 : decode cX7_count 64 = .ok (.getfield 219, 3) := by decide +kernel
theorem dX7_count_67 : decode cX7_count 67 = .ok (.getfield 223, 3) := by decide +kernel
theorem dX7_count_70 : decode cX7_count 70 = .ok (.ireturn, 1) := by decide +kernel
theorem dX7_count_71 : decode cX7_count 71 = .ok (.aload_n 0, 1) := by decide +kernel
theorem dX7_count_72 : decode cX7_count 72 = .ok (.getfield 23, 3) := by decide +kernel
theorem dX7_count_75 : decode cX7_count 75 = .ok (.getfield 219, 3) := by decide +kernel
theorem dX7_count_78 : decode cX7_count 78 = .ok (.invokevirtual 260, 3) := by decide +kernel
theorem dX7_count_81 : decode cX7_count 81 = .ok (.ireturn, 1) := by decide +kernel
theorem dX7_count_82 : decode cX7_count 82 = .ok (.aload_n 0, 1) := by decide +kernel
theorem dX7_count_83 : decode cX7_count 83 = .ok (.getfield 23, 3) := by decide +kernel
theorem dX7_count_86 : decode cX7_count 86 = .ok (.getfield 273, 3) := by decide +kernel
theorem dX7_count_89 : decode cX7_count 89 = .ok (.ireturn, 1) := by decide +kernel
theorem dX7_count_90 : decode cX7_count 90 = .ok (.aload_n 0, 1) := by decide +kernel
theorem dX7_count_91 : decode cX7_count 91 = .ok (.getfield 10, 3) := by decide +kernel
theorem dX7_count_94 : decode cX7_count 94 = .ok (.getfield 47, 3) := by decide +kernel
theorem dX7_count_97 : decode cX7_count 97 = .ok (.ireturn, 1) := by decide +kernel
theorem dX7_count_98 : decode cX7_count 98 = .ok (.aload_n 0, 1) := by decide +kernel
theorem dX7_count_99 : decode cX7_count 99 = .ok (.getfield 23, 3) := by decide +kernel
theorem dX7_count_102 : decode cX7_count 102 = .ok (.getfield 141, 3) := by decide +kernel
theorem dX7_count_105 : decode cX7_count 105 = .ok (.ifCond .eq 7, 3) := by decide +kernel
theorem dX7_count_108 : decode cX7_count 108 = .ok (.iconst 1, 1) := by decide +kernel
theorem dX7_count_109 : decode cX7_count 109 = .ok (.goto 4, 3) := by decide +kernel
theorem dX7_count_112 : decode cX7_count 112 = .ok (.iconst 0, 1) := by decide +kernel
theorem dX7_count_113 : decode cX7_count 113 = .ok (.ireturn, 1) := by decide +kernel
theorem dX7_count_114 : decode cX7_count 114 = .ok (.aload_n 0, 1) := by decide +kernel
theorem dX7_count_115 : decode cX7_count 115 = .ok (.iload_n 1, 1) := by decide +kernel
theorem dX7_count_116 : decode cX7_count 116 = .ok (.bipush 10, 2) := by decide +kernel
theorem dX7_count_118 : decode cX7_count 118 = .ok (.isub, 1) := by decide +kernel
theorem dX7_count_119 : decode cX7_count 119 = .ok (.invokevirtual 288, 3) := by decide +kernel
theorem dX7_count_122 : decode cX7_count 122 = .ok (.ireturn, 1) := by decide +kernel
theorem dX7_refuse_0 : decode cX7_refuse 0 = .ok (.iload_n 1, 1) := by decide +kernel
theorem dX7_refuse_1 : decode cX7_refuse 1 = .ok (.ineg, 1) := by decide +kernel
theorem dX7_refuse_2 : decode cX7_refuse 2 = .ok (.istore_n 2, 1) := by decide +kernel
theorem dX7_refuse_3 : decode cX7_refuse 3 = .ok (.iload_n 2, 1) := by decide +kernel
theorem dX7_refuse_4 : decode cX7_refuse 4 = .ok (.iconst 1, 1) := by decide +kernel
theorem dX7_refuse_5 : decode cX7_refuse 5 = .ok (.if_icmp .lt 22, 3) := by decide +kernel
theorem dX7_refuse_8 : decode cX7_refuse 8 = .ok (.iload_n 2, 1) := by decide +kernel
theorem dX7_refuse_9 : decode cX7_refuse 9 = .ok (.aload_n 0, 1) := by decide +kernel
theorem dX7_refuse_10 : decode cX7_refuse 10 = .ok (.getfield 16, 3) := by decide +kernel
theorem dX7_refuse_13 : decode cX7_refuse 13 = .ok (.arraylength, 1) := by decide +kernel
theorem dX7_refuse_14 : decode cX7_refuse 14 = .ok (.if_icmp .ge 13, 3) := by decide +kernel
theorem dX7_refuse_17 : decode cX7_refuse 17 = .ok (.aload_n 0, 1) := by decide +kernel
theorem dX7_refuse_18 : decode cX7_refuse 18 = .ok (.getfield 16, 3) := by decide +kernel
theorem dX7_refuse_21 : decode cX7_refuse 21 = .ok (.iload_n 2, 1) := by decide +kernel
theorem dX7_refuse_22 : decode cX7_refuse 22 = .ok (.dup2, 1) := by decide +kernel
theorem dX7_refuse_23 : decode cX7_refuse 23 = .ok (.iaload, 1) := by decide +kernel
theorem dX7_refuse_24 : decode cX7_refuse 24 = .ok (.iconst 1, 1) := by decide +kernel
theorem dX7_refuse_25 : decode cX7_refuse 25 = .ok (.iadd, 1) := by decide +kernel
theorem dX7_refuse_26 : decode cX7_refuse 26 = .ok (.iastore, 1) := by decide +kernel
theorem dX7_refuse_27 : decode cX7_refuse 27 = .ok (.iload_n 1, 1) := by decide +kernel
theorem dX7_refuse_28 : decode cX7_refuse 28 = .ok (.ireturn, 1) := by decide +kernel
theorem dX7_refusedSoFar_0 : decode cX7_refusedSoFar 0 = .ok (.iload_n 1, 1) := by decide +kernel
theorem dX7_refusedSoFar_1 : decode cX7_refusedSoFar 1 = .ok (.iconst 1, 1) := by decide +kernel
theorem dX7_refusedSoFar_2 : decode cX7_refusedSoFar 2 = .ok (.if_icmp .lt 21, 3) := by decide +kernel
theorem dX7_refusedSoFar_5 : decode cX7_refusedSoFar 5 = .ok (.iload_n 1, 1) := by decide +kernel
theorem dX7_refusedSoFar_6 : decode cX7_refusedSoFar 6 = .ok (.aload_n 0, 1) := by decide +kernel
theorem dX7_refusedSoFar_7 : decode cX7_refusedSoFar 7 = .ok (.getfield 16, 3) := by decide +kernel
theorem dX7_refusedSoFar_10 : decode cX7_refusedSoFar 10 = .ok (.arraylength, 1) := by decide +kernel
theorem dX7_refusedSoFar_11 : decode cX7_refusedSoFar 11 = .ok (.if_icmp .ge 12, 3) := by decide +kernel
theorem dX7_refusedSoFar_14 : decode cX7_refusedSoFar 14 = .ok (.aload_n 0, 1) := by decide +kernel
theorem dX7_refusedSoFar_15 : decode cX7_refusedSoFar 15 = .ok (.getfield 16, 3) := by decide +kernel
theorem dX7_refusedSoFar_18 : decode cX7_refusedSoFar 18 = .ok (.iload_n 1, 1) := by decide +kernel
theorem dX7_refusedSoFar_19 : decode cX7_refusedSoFar 19 = .ok (.iaload, 1) := by decide +kernel
theorem dX7_refusedSoFar_20 : decode cX7_refusedSoFar 20 = .ok (.goto 5, 3) := by decide +kernel
theorem dX7_refusedSoFar_23 : decode cX7_refusedSoFar 23 = .ok (.bipush (-9), 2) := by decide +kernel
theorem dX7_refusedSoFar_25 : decode cX7_refusedSoFar 25 = .ok (.ireturn, 1) := by decide +kernel
theorem dX7_isFloor_0 : decode cX7_isFloor 0 = .ok (.iload_n 0, 1) := by decide +kernel
theorem dX7_isFloor_1 : decode cX7_isFloor 1 = .ok (.ifCond .lt 12, 3) := by decide +kernel
theorem dX7_isFloor_4 : decode cX7_isFloor 4 = .ok (.iload_n 0, 1) := by decide +kernel
theorem dX7_isFloor_5 : decode cX7_isFloor 5 = .ok (.iconst 4, 1) := by decide +kernel
theorem dX7_isFloor_6 : decode cX7_isFloor 6 = .ok (.if_icmp .ge 7, 3) := by decide +kernel
theorem dX7_isFloor_9 : decode cX7_isFloor 9 = .ok (.iconst 1, 1) := by decide +kernel
theorem dX7_isFloor_10 : decode cX7_isFloor 10 = .ok (.goto 4, 3) := by decide +kernel
theorem dX7_isFloor_13 : decode cX7_isFloor 13 = .ok (.iconst 0, 1) := by decide +kernel
theorem dX7_isFloor_14 : decode cX7_isFloor 14 = .ok (.ireturn, 1) := by decide +kernel
theorem dX7_isZeroOrOne_0 : decode cX7_isZeroOrOne 0 = .ok (.iload_n 0, 1) := by decide +kernel
theorem dX7_isZeroOrOne_1 : decode cX7_isZeroOrOne 1 = .ok (.ifCond .eq 8, 3) := by decide +kernel
theorem dX7_isZeroOrOne_4 : decode cX7_isZeroOrOne 4 = .ok (.iload_n 0, 1) := by decide +kernel
theorem dX7_isZeroOrOne_5 : decode cX7_isZeroOrOne 5 = .ok (.iconst 1, 1) := by decide +kernel
theorem dX7_isZeroOrOne_6 : decode cX7_isZeroOrOne 6 = .ok (.if_icmp .ne 7, 3) := by decide +kernel
theorem dX7_isZeroOrOne_9 : decode cX7_isZeroOrOne 9 = .ok (.iconst 1, 1) := by decide +kernel
theorem dX7_isZeroOrOne_10 : decode cX7_isZeroOrOne 10 = .ok (.goto 4, 3) := by decide +kernel
theorem dX7_isZeroOrOne_13 : decode cX7_isZeroOrOne 13 = .ok (.iconst 0, 1) := by decide +kernel
theorem dX7_isZeroOrOne_14 : decode cX7_isZeroOrOne 14 = .ok (.ireturn, 1) := by decide +kernel
theorem dX7_isSet_0 : decode cX7_isSet 0 = .ok (.iload_n 1, 1) := by decide +kernel
theorem dX7_isSet_1 : decode cX7_isSet 1 = .ok (.ifCond .lt 20, 3) := by decide +kernel
theorem dX7_isSet_4 : decode cX7_isSet 4 = .ok (.iload_n 1, 1) := by decide +kernel
theorem dX7_isSet_5 : decode cX7_isSet 5 = .ok (.iconst 1, 1) := by decide +kernel
theorem dX7_isSet_6 : decode cX7_isSet 6 = .ok (.aload_n 0, 1) := by decide +kernel
theorem dX7_isSet_7 : decode cX7_isSet 7 = .ok (.getfield 23, 3) := by decide +kernel
theorem dX7_isSet_10 : decode cX7_isSet 10 = .ok (.getfield 90, 3) := by decide +kernel
theorem dX7_isSet_13 : decode cX7_isSet 13 = .ok (.ishl, 1) := by decide +kernel
theorem dX7_isSet_14 : decode cX7_isSet 14 = .ok (.if_icmp .ge 7, 3) := by decide +kernel
theorem dX7_isSet_17 : decode cX7_isSet 17 = .ok (.iconst 1, 1) := by decide +kernel
theorem dX7_isSet_18 : decode cX7_isSet 18 = .ok (.goto 4, 3) := by decide +kernel
theorem dX7_isSet_21 : decode cX7_isSet 21 = .ok (.iconst 0, 1) := by decide +kernel
theorem dX7_isSet_22 : decode cX7_isSet 22 = .ok (.ireturn, 1) := by decide +kernel
theorem dX7_leanRefusal_0 : decode cX7_leanRefusal 0 = .ok (.iload_n 0, 1) := by decide +kernel
theorem dX7_leanRefusal_1 : decode cX7_leanRefusal 1 = .ok (.ifCond .ge 6, 3) := by decide +kernel
theorem dX7_leanRefusal_4 : decode cX7_leanRefusal 4 = .ok (.bipush (-4), 2) := by decide +kernel
theorem dX7_leanRefusal_6 : decode cX7_leanRefusal 6 = .ok (.ireturn, 1) := by decide +kernel
theorem dX7_leanRefusal_7 : decode cX7_leanRefusal 7 = .ok (.iload_n 0, 1) := by decide +kernel
theorem dX7_leanRefusal_8 : decode cX7_leanRefusal 8 = .ok (.sipush 9000, 3) := by decide +kernel
theorem dX7_leanRefusal_11 : decode cX7_leanRefusal 11 = .ok (.if_icmp .le 8, 3) := by decide +kernel
theorem dX7_leanRefusal_14 : decode cX7_leanRefusal 14 = .ok (.bipush (-6), 2) := by decide +kernel
theorem dX7_leanRefusal_16 : decode cX7_leanRefusal 16 = .ok (.goto 4, 3) := by decide +kernel
theorem dX7_leanRefusal_19 : decode cX7_leanRefusal 19 = .ok (.iconst 0, 1) := by decide +kernel
theorem dX7_leanRefusal_20 : decode cX7_leanRefusal 20 = .ok (.ireturn, 1) := by decide +kernel
theorem dX7_toneOf_0 : decode cX7_toneOf 0 = .ok (.iload_n 0, 1) := by decide +kernel
theorem dX7_toneOf_1 : decode cX7_toneOf 1 = .ok (.bipush 10, 2) := by decide +kernel
theorem dX7_toneOf_3 : decode cX7_toneOf 3 = .ok (.iadd, 1) := by decide +kernel
theorem dX7_toneOf_4 : decode cX7_toneOf 4 = .ok (.istore_n 3, 1) := by decide +kernel
theorem dX7_toneOf_5 : decode cX7_toneOf 5 = .ok (.bipush 10, 2) := by decide +kernel
theorem dX7_toneOf_7 : decode cX7_toneOf 7 = .ok (.iload_n 1, 1) := by decide +kernel
theorem dX7_toneOf_8 : decode cX7_toneOf 8 = .ok (.bipush 10, 2) := by decide +kernel
theorem dX7_toneOf_10 : decode cX7_toneOf 10 = .ok (.idiv, 1) := by decide +kernel
theorem dX7_toneOf_11 : decode cX7_toneOf 11 = .ok (.iadd, 1) := by decide +kernel
theorem dX7_toneOf_12 : decode cX7_toneOf 12 = .ok (.istore 4, 2) := by decide +kernel
theorem dX7_toneOf_14 : decode cX7_toneOf 14 = .ok (.iload_n 3, 1) := by decide +kernel
theorem dX7_toneOf_15 : decode cX7_toneOf 15 = .ok (.ifCond .le 8, 3) := by decide +kernel
theorem dX7_toneOf_18 : decode cX7_toneOf 18 = .ok (.iload 4, 2) := by decide +kernel
theorem dX7_toneOf_20 : decode cX7_toneOf 20 = .ok (.ifCond .gt 7, 3) := by decide +kernel
theorem dX7_toneOf_23 : decode cX7_toneOf 23 = .ok (.iconst 0, 1) := by decide +kernel
theorem dX7_toneOf_24 : decode cX7_toneOf 24 = .ok (.goto 16, 3) := by decide +kernel
theorem dX7_toneOf_27 : decode cX7_toneOf 27 = .ok (.sipush 9000, 3) := by decide +kernel
theorem dX7_toneOf_30 : decode cX7_toneOf 30 = .ok (.iload_n 3, 1) := by decide +kernel
theorem dX7_toneOf_31 : decode cX7_toneOf 31 = .ok (.idiv, 1) := by decide +kernel
theorem dX7_toneOf_32 : decode cX7_toneOf 32 = .ok (.bipush 100, 2) := by decide +kernel
theorem dX7_toneOf_34 : decode cX7_toneOf 34 = .ok (.iload_n 2, 1) := by decide +kernel
theorem dX7_toneOf_35 : decode cX7_toneOf 35 = .ok (.iadd, 1) := by decide +kernel
theorem dX7_toneOf_36 : decode cX7_toneOf 36 = .ok (.imul, 1) := by decide +kernel
theorem dX7_toneOf_37 : decode cX7_toneOf 37 = .ok (.iload 4, 2) := by decide +kernel
theorem dX7_toneOf_39 : decode cX7_toneOf 39 = .ok (.idiv, 1) := by decide +kernel
theorem dX7_toneOf_40 : decode cX7_toneOf 40 = .ok (.ireturn, 1) := by decide +kernel
theorem dX7_beginAgain_0 : decode cX7_beginAgain 0 = .ok (.aload_n 0, 1) := by decide +kernel
theorem dX7_beginAgain_1 : decode cX7_beginAgain 1 = .ok (.getfield 23, 3) := by decide +kernel
theorem dX7_beginAgain_4 : decode cX7_beginAgain 4 = .ok (.getfield 119, 3) := by decide +kernel
theorem dX7_beginAgain_7 : decode cX7_beginAgain 7 = .ok (.astore_n 2, 1) := by decide +kernel
theorem dX7_beginAgain_8 : decode cX7_beginAgain 8 = .ok (.aload_n 0, 1) := by decide +kernel
theorem dX7_beginAgain_9 : decode cX7_beginAgain 9 = .ok (.getfield 35, 3) := by decide +kernel
theorem dX7_beginAgain_12 : decode cX7_beginAgain 12 = .ok (.aload_n 0, 1) := by decide +kernel
theorem dX7_beginAgain_13 : decode cX7_beginAgain 13 = .ok (.getfield 23, 3) := by decide +kernel
theorem dX7_beginAgain_16 : decode cX7_beginAgain 16 = .ok (.aload_n 2, 1) := by decide +kernel
theorem dX7_beginAgain_17 : decode cX7_beginAgain 17 = .ok (.getfield 168, 3) := by decide +kernel
theorem dX7_beginAgain_20 : decode cX7_beginAgain 20 = .ok (.invokevirtual 69, 3) := by decide +kernel
theorem dX7_beginAgain_23 : decode cX7_beginAgain 23 = .ok (.aload_n 2, 1) := by decide +kernel
theorem dX7_beginAgain_24 : decode cX7_beginAgain 24 = .ok (.getfield 291, 3) := by decide +kernel
theorem dX7_beginAgain_27 : decode cX7_beginAgain 27 = .ok (.aload_n 2, 1) := by decide +kernel
theorem dX7_beginAgain_28 : decode cX7_beginAgain 28 = .ok (.getfield 174, 3) := by decide +kernel
theorem dX7_beginAgain_31 : decode cX7_beginAgain 31 = .ok (.invokevirtual 151, 3) := by decide +kernel
theorem dX7_beginAgain_34 : decode cX7_beginAgain 34 = .ok (.aload_n 0, 1) := by decide +kernel
theorem dX7_beginAgain_35 : decode cX7_beginAgain 35 = .ok (.getfield 35, 3) := by decide +kernel
theorem dX7_beginAgain_38 : decode cX7_beginAgain 38 = .ok (.iload_n 1, 1) := by decide +kernel
theorem dX7_beginAgain_39 : decode cX7_beginAgain 39 = .ok (.putfield 294, 3) := by decide +kernel
theorem dX7_beginAgain_42 : decode cX7_beginAgain 42 = .ok (.return_, 1) := by decide +kernel
theorem dX7_ticksOf_0 : decode cX7_ticksOf 0 = .ok (.aload_n 0, 1) := by decide +kernel
theorem dX7_ticksOf_1 : decode cX7_ticksOf 1 = .ok (.getfield 35, 3) := by decide +kernel
theorem dX7_ticksOf_4 : decode cX7_ticksOf 4 = .ok (.aload_n 1, 1) := by decide +kernel
theorem dX7_ticksOf_5 : decode cX7_ticksOf 5 = .ok (.iload_n 2, 1) := by decide +kernel
theorem dX7_ticksOf_6 : decode cX7_ticksOf 6 = .ok (.iload_n 3, 1) := by decide +kernel
theorem dX7_ticksOf_7 : decode cX7_ticksOf 7 = .ok (.invokevirtual 151, 3) := by decide +kernel
theorem dX7_ticksOf_10 : decode cX7_ticksOf 10 = .ok (.aload_n 0, 1) := by decide +kernel
theorem dX7_ticksOf_11 : decode cX7_ticksOf 11 = .ok (.getfield 35, 3) := by decide +kernel
theorem dX7_ticksOf_14 : decode cX7_ticksOf 14 = .ok (.sipush 9999, 3) := by decide +kernel
theorem dX7_ticksOf_17 : decode cX7_ticksOf 17 = .ok (.invokevirtual 211, 3) := by decide +kernel
theorem dX7_ticksOf_20 : decode cX7_ticksOf 20 = .ok (.aload_n 0, 1) := by decide +kernel
theorem dX7_ticksOf_21 : decode cX7_ticksOf 21 = .ok (.getfield 35, 3) := by decide +kernel
theorem dX7_ticksOf_24 : decode cX7_ticksOf 24 = .ok (.getfield 155, 3) := by decide +kernel
theorem dX7_ticksOf_27 : decode cX7_ticksOf 27 = .ok (.ireturn, 1) := by decide +kernel
theorem dX7_ticksAhead_0 : decode cX7_ticksAhead 0 = .ok (.aload_n 0, 1) := by decide +kernel
theorem dX7_ticksAhead_1 : decode cX7_ticksAhead 1 = .ok (.getfield 23, 3) := by decide +kernel
theorem dX7_ticksAhead_4 : decode cX7_ticksAhead 4 = .ok (.getfield 119, 3) := by decide +kernel
theorem dX7_ticksAhead_7 : decode cX7_ticksAhead 7 = .ok (.astore 4, 2) := by decide +kernel
theorem dX7_ticksAhead_9 : decode cX7_ticksAhead 9 = .ok (.iload_n 1, 1) := by decide +kernel
theorem dX7_ticksAhead_10 : decode cX7_ticksAhead 10 = .ok (.iconst 2, 1) := by decide +kernel
theorem dX7_ticksAhead_11 : decode cX7_ticksAhead 11 = .ok (.if_icmp .ne 7, 3) := by decide +kernel
theorem dX7_ticksAhead_14 : decode cX7_ticksAhead 14 = .ok (.iload_n 3, 1) := by decide +kernel
theorem dX7_ticksAhead_15 : decode cX7_ticksAhead 15 = .ok (.goto 8, 3) := by decide +kernel
theorem dX7_ticksAhead_18 : decode cX7_ticksAhead 18 = .ok (.aload 4, 2) := by decide +kernel
theorem dX7_ticksAhead_20 : decode cX7_ticksAhead 20 = .ok (.getfield 168, 3) := by decide +kernel
theorem dX7_ticksAhead_23 : decode cX7_ticksAhead 23 = .ok (.istore 5, 2) := by decide +kernel
theorem dX7_ticksAhead_25 : decode cX7_ticksAhead 25 = .ok (.iload_n 1, 1) := by decide +kernel
theorem dX7_ticksAhead_26 : decode cX7_ticksAhead 26 = .ok (.iconst 3, 1) := by decide +kernel
theorem dX7_ticksAhead_27 : decode cX7_ticksAhead 27 = .ok (.if_icmp .ne 7, 3) := by decide +kernel
theorem dX7_ticksAhead_30 : decode cX7_ticksAhead 30 = .ok (.iload_n 3, 1) := by decide +kernel
theorem dX7_ticksAhead_31 : decode cX7_ticksAhead 31 = .ok (.goto 8, 3) := by decide +kernel
theorem dX7_ticksAhead_34 : decode cX7_ticksAhead 34 = .ok (.aload 4, 2) := by decide +kernel
theorem dX7_ticksAhead_36 : decode cX7_ticksAhead 36 = .ok (.getfield 174, 3) := by decide +kernel
theorem dX7_ticksAhead_39 : decode cX7_ticksAhead 39 = .ok (.istore 6, 2) := by decide +kernel
theorem dX7_ticksAhead_41 : decode cX7_ticksAhead 41 = .ok (.iload_n 1, 1) := by decide +kernel
theorem dX7_ticksAhead_42 : decode cX7_ticksAhead 42 = .ok (.iconst 4, 1) := by decide +kernel
theorem dX7_ticksAhead_43 : decode cX7_ticksAhead 43 = .ok (.if_icmp .ne 13, 3) := by decide +kernel
theorem dX7_ticksAhead_46 : decode cX7_ticksAhead 46 = .ok (.aload 4, 2) := by decide +kernel
theorem dX7_ticksAhead_48 : decode cX7_ticksAhead 48 = .ok (.getfield 291, 3) := by decide +kernel
theorem dX7_ticksAhead_51 : decode cX7_ticksAhead 51 = .ok (.iconst 2, 1) := by decide +kernel
theorem dX7_ticksAhead_52 : decode cX7_ticksAhead 52 = .ok (.idiv, 1) := by decide +kernel
theorem dX7_ticksAhead_53 : decode cX7_ticksAhead 53 = .ok (.goto 8, 3) := by decide +kernel
theorem dX7_ticksAhead_56 : decode cX7_ticksAhead 56 = .ok (.aload 4, 2) := by decide +kernel
theorem dX7_ticksAhead_58 : decode cX7_ticksAhead 58 = .ok (.getfield 291, 3) := by decide +kernel
theorem dX7_ticksAhead_61 : decode cX7_ticksAhead 61 = .ok (.istore 7, 2) := by decide +kernel
theorem dX7_ticksAhead_63 : decode cX7_ticksAhead 63 = .ok (.aload_n 0, 1) := by decide +kernel
theorem dX7_ticksAhead_64 : decode cX7_ticksAhead 64 = .ok (.getfield 35, 3) := by decide +kernel
theorem dX7_ticksAhead_67 : decode cX7_ticksAhead 67 = .ok (.aload_n 0, 1) := by decide +kernel
theorem dX7_ticksAhead_68 : decode cX7_ticksAhead 68 = .ok (.getfield 23, 3) := by decide +kernel
theorem dX7_ticksAhead_71 : decode cX7_ticksAhead 71 = .ok (.iload 5, 2) := by decide +kernel
theorem dX7_ticksAhead_73 : decode cX7_ticksAhead 73 = .ok (.invokevirtual 69, 3) := by decide +kernel
theorem dX7_ticksAhead_76 : decode cX7_ticksAhead 76 = .ok (.iload 7, 2) := by decide +kernel
theorem dX7_ticksAhead_78 : decode cX7_ticksAhead 78 = .ok (.iload 6, 2) := by decide +kernel
theorem dX7_ticksAhead_80 : decode cX7_ticksAhead 80 = .ok (.invokevirtual 151, 3) := by decide +kernel
theorem dX7_ticksAhead_83 : decode cX7_ticksAhead 83 = .ok (.aload_n 0, 1) := by decide +kernel
theorem dX7_ticksAhead_84 : decode cX7_ticksAhead 84 = .ok (.getfield 35, 3) := by decide +kernel
theorem dX7_ticksAhead_87 : decode cX7_ticksAhead 87 = .ok (.iload_n 2, 1) := by decide +kernel
theorem dX7_ticksAhead_88 : decode cX7_ticksAhead 88 = .ok (.putfield 294, 3) := by decide +kernel
theorem dX7_ticksAhead_91 : decode cX7_ticksAhead 91 = .ok (.aload_n 0, 1) := by decide +kernel
theorem dX7_ticksAhead_92 : decode cX7_ticksAhead 92 = .ok (.getfield 35, 3) := by decide +kernel
theorem dX7_ticksAhead_95 : decode cX7_ticksAhead 95 = .ok (.aload_n 0, 1) := by decide +kernel
theorem dX7_ticksAhead_96 : decode cX7_ticksAhead 96 = .ok (.getfield 23, 3) := by decide +kernel
theorem dX7_ticksAhead_99 : decode cX7_ticksAhead 99 = .ok (.getfield 141, 3) := by decide +kernel
theorem dX7_ticksAhead_102 : decode cX7_ticksAhead 102 = .ok (.iload_n 1, 1) := by decide +kernel
theorem dX7_ticksAhead_103 : decode cX7_ticksAhead 103 = .ok (.iconst 1, 1) := by decide +kernel
theorem dX7_ticksAhead_104 : decode cX7_ticksAhead 104 = .ok (.if_icmp .ne 7, 3) := by decide +kernel
theorem dX7_ticksAhead_107 : decode cX7_ticksAhead 107 = .ok (.iconst 1, 1) := by decide +kernel
theorem dX7_ticksAhead_108 : decode cX7_ticksAhead 108 = .ok (.goto 4, 3) := by decide +kernel
theorem dX7_ticksAhead_111 : decode cX7_ticksAhead 111 = .ok (.iconst 0, 1) := by decide +kernel
theorem dX7_ticksAhead_112 : decode cX7_ticksAhead 112 = .ok (.if_icmp .eq 7, 3) := by decide +kernel
theorem dX7_ticksAhead_115 : decode cX7_ticksAhead 115 = .ok (.iconst 1, 1) := by decide +kernel
theorem dX7_ticksAhead_116 : decode cX7_ticksAhead 116 = .ok (.goto 4, 3) := by decide +kernel
theorem dX7_ticksAhead_119 : decode cX7_ticksAhead 119 = .ok (.iconst 0, 1) := by decide +kernel
theorem dX7_ticksAhead_120 : decode cX7_ticksAhead 120 = .ok (.putfield 297, 3) := by decide +kernel
theorem dX7_ticksAhead_123 : decode cX7_ticksAhead 123 = .ok (.aload_n 0, 1) := by decide +kernel
theorem dX7_ticksAhead_124 : decode cX7_ticksAhead 124 = .ok (.getfield 35, 3) := by decide +kernel
theorem dX7_ticksAhead_127 : decode cX7_ticksAhead 127 = .ok (.sipush 9999, 3) := by decide +kernel
theorem dX7_ticksAhead_130 : decode cX7_ticksAhead 130 = .ok (.invokevirtual 211, 3) := by decide +kernel
theorem dX7_ticksAhead_133 : decode cX7_ticksAhead 133 = .ok (.aload_n 0, 1) := by decide +kernel
theorem dX7_ticksAhead_134 : decode cX7_ticksAhead 134 = .ok (.getfield 35, 3) := by decide +kernel
theorem dX7_ticksAhead_137 : decode cX7_ticksAhead 137 = .ok (.getfield 155, 3) := by decide +kernel
theorem dX7_ticksAhead_140 : decode cX7_ticksAhead 140 = .ok (.ireturn, 1) := by decide +kernel
theorem dX7_ticksByStep_0 : decode cX7_ticksByStep 0 = .ok (.aload_n 0, 1) := by decide +kernel
theorem dX7_ticksByStep_1 : decode cX7_ticksByStep 1 = .ok (.iconst (-1), 1) := by decide +kernel
theorem dX7_ticksByStep_2 : decode cX7_ticksByStep 2 = .ok (.invokevirtual 207, 3) := by decide +kernel
theorem dX7_ticksByStep_5 : decode cX7_ticksByStep 5 = .ok (.aload_n 0, 1) := by decide +kernel
theorem dX7_ticksByStep_6 : decode cX7_ticksByStep 6 = .ok (.getfield 35, 3) := by decide +kernel
theorem dX7_ticksByStep_9 : decode cX7_ticksByStep 9 = .ok (.iload_n 1, 1) := by decide +kernel
theorem dX7_ticksByStep_10 : decode cX7_ticksByStep 10 = .ok (.putfield 298, 3) := by decide +kernel
theorem dX7_ticksByStep_13 : decode cX7_ticksByStep 13 = .ok (.aload_n 0, 1) := by decide +kernel
theorem dX7_ticksByStep_14 : decode cX7_ticksByStep 14 = .ok (.getfield 35, 3) := by decide +kernel
theorem dX7_ticksByStep_17 : decode cX7_ticksByStep 17 = .ok (.sipush 9999, 3) := by decide +kernel
theorem dX7_ticksByStep_20 : decode cX7_ticksByStep 20 = .ok (.invokevirtual 211, 3) := by decide +kernel
theorem dX7_ticksByStep_23 : decode cX7_ticksByStep 23 = .ok (.aload_n 0, 1) := by decide +kernel
theorem dX7_ticksByStep_24 : decode cX7_ticksByStep 24 = .ok (.getfield 35, 3) := by decide +kernel
theorem dX7_ticksByStep_27 : decode cX7_ticksByStep 27 = .ok (.getfield 155, 3) := by decide +kernel
theorem dX7_ticksByStep_30 : decode cX7_ticksByStep 30 = .ok (.ireturn, 1) := by decide +kernel
theorem dX7_ticksByLegs_0 : decode cX7_ticksByLegs 0 = .ok (.aload_n 0, 1) := by decide +kernel
theorem dX7_ticksByLegs_1 : decode cX7_ticksByLegs 1 = .ok (.getfield 35, 3) := by decide +kernel
theorem dX7_ticksByLegs_4 : decode cX7_ticksByLegs 4 = .ok (.aload_n 1, 1) := by decide +kernel
theorem dX7_ticksByLegs_5 : decode cX7_ticksByLegs 5 = .ok (.iload_n 2, 1) := by decide +kernel
theorem dX7_ticksByLegs_6 : decode cX7_ticksByLegs 6 = .ok (.iconst 0, 1) := by decide +kernel
theorem dX7_ticksByLegs_7 : decode cX7_ticksByLegs 7 = .ok (.invokevirtual 151, 3) := by decide +kernel
theorem dX7_ticksByLegs_10 : decode cX7_ticksByLegs 10 = .ok (.iconst 0, 1) := by decide +kernel
theorem dX7_ticksByLegs_11 : decode cX7_ticksByLegs 11 = .ok (.istore_n 3, 1) := by decide +kernel
theorem dX7_ticksByLegs_12 : decode cX7_ticksByLegs 12 = .ok (.iconst 0, 1) := by decide +kernel
theorem dX7_ticksByLegs_13 : decode cX7_ticksByLegs 13 = .ok (.istore 4, 2) := by decide +kernel
theorem dX7_ticksByLegs_15 : decode cX7_ticksByLegs 15 = .ok (.iload 4, 2) := by decide +kernel
theorem dX7_ticksByLegs_17 : decode cX7_ticksByLegs 17 = .ok (.aload_n 0, 1) := by decide +kernel
theorem dX7_ticksByLegs_18 : decode cX7_ticksByLegs 18 = .ok (.getfield 23, 3) := by decide +kernel
theorem dX7_ticksByLegs_21 : decode cX7_ticksByLegs 21 = .ok (.getfield 273, 3) := by decide +kernel
theorem dX7_ticksByLegs_24 : decode cX7_ticksByLegs 24 = .ok (.if_icmp .ge 85, 3) := by decide +kernel
theorem dX7_ticksByLegs_27 : decode cX7_ticksByLegs 27 = .ok (.iload 4, 2) := by decide +kernel
theorem dX7_ticksByLegs_29 : decode cX7_ticksByLegs 29 = .ok (.iconst 4, 1) := by decide +kernel
theorem dX7_ticksByLegs_30 : decode cX7_ticksByLegs 30 = .ok (.if_icmp .ge 79, 3) := by decide +kernel
theorem dX7_ticksByLegs_33 : decode cX7_ticksByLegs 33 = .ok (.iload 4, 2) := by decide +kernel
theorem dX7_ticksByLegs_35 : decode cX7_ticksByLegs 35 = .ok (.aload_n 0, 1) := by decide +kernel
theorem dX7_ticksByLegs_36 : decode cX7_ticksByLegs 36 = .ok (.getfield 23, 3) := by decide +kernel
theorem dX7_ticksByLegs_39 : decode cX7_ticksByLegs 39 = .ok (.getfield 273, 3) := by decide +kernel
theorem dX7_ticksByLegs_42 : decode cX7_ticksByLegs 42 = .ok (.iconst 1, 1) := by decide +kernel
theorem dX7_ticksByLegs_43 : decode cX7_ticksByLegs 43 = .ok (.isub, 1) := by decide +kernel
theorem dX7_ticksByLegs_44 : decode cX7_ticksByLegs 44 = .ok (.if_icmp .ne 7, 3) := by decide +kernel
theorem dX7_ticksByLegs_47 : decode cX7_ticksByLegs 47 = .ok (.iconst 1, 1) := by decide +kernel
theorem dX7_ticksByLegs_48 : decode cX7_ticksByLegs 48 = .ok (.goto 4, 3) := by decide +kernel
theorem dX7_ticksByLegs_51 : decode cX7_ticksByLegs 51 = .ok (.iconst 0, 1) := by decide +kernel
theorem dX7_ticksByLegs_52 : decode cX7_ticksByLegs 52 = .ok (.istore 5, 2) := by decide +kernel
theorem dX7_ticksByLegs_54 : decode cX7_ticksByLegs 54 = .ok (.iload 5, 2) := by decide +kernel
theorem dX7_ticksByLegs_56 : decode cX7_ticksByLegs 56 = .ok (.ifCond .eq 9, 3) := by decide +kernel
theorem dX7_ticksByLegs_59 : decode cX7_ticksByLegs 59 = .ok (.sipush 9999, 3) := by decide +kernel
theorem dX7_ticksByLegs_62 : decode cX7_ticksByLegs 62 = .ok (.goto 15, 3) := by decide +kernel
theorem dX7_ticksByLegs_65 : decode cX7_ticksByLegs 65 = .ok (.iload_n 3, 1) := by decide +kernel
theorem dX7_ticksByLegs_66 : decode cX7_ticksByLegs 66 = .ok (.aload_n 0, 1) := by decide +kernel
theorem dX7_ticksByLegs_67 : decode cX7_ticksByLegs 67 = .ok (.getfield 23, 3) := by decide +kernel
theorem dX7_ticksByLegs_70 : decode cX7_ticksByLegs 70 = .ok (.getfield 301, 3) := by decide +kernel
theorem dX7_ticksByLegs_73 : decode cX7_ticksByLegs 73 = .ok (.iload 4, 2) := by decide +kernel
theorem dX7_ticksByLegs_75 : decode cX7_ticksByLegs 75 = .ok (.iaload, 1) := by decide +kernel
theorem dX7_ticksByLegs_76 : decode cX7_ticksByLegs 76 = .ok (.iadd, 1) := by decide +kernel
theorem dX7_ticksByLegs_77 : decode cX7_ticksByLegs 77 = .ok (.istore_n 3, 1) := by decide +kernel
theorem dX7_ticksByLegs_78 : decode cX7_ticksByLegs 78 = .ok (.aload_n 0, 1) := by decide +kernel
theorem dX7_ticksByLegs_79 : decode cX7_ticksByLegs 79 = .ok (.getfield 35, 3) := by decide +kernel
theorem dX7_ticksByLegs_82 : decode cX7_ticksByLegs 82 = .ok (.aload_n 0, 1) := by decide +kernel
theorem dX7_ticksByLegs_83 : decode cX7_ticksByLegs 83 = .ok (.getfield 23, 3) := by decide +kernel
theorem dX7_ticksByLegs_86 : decode cX7_ticksByLegs 86 = .ok (.getfield 304, 3) := by decide +kernel
theorem dX7_ticksByLegs_89 : decode cX7_ticksByLegs 89 = .ok (.iload 4, 2) := by decide +kernel
theorem dX7_ticksByLegs_91 : decode cX7_ticksByLegs 91 = .ok (.iaload, 1) := by decide +kernel
theorem dX7_ticksByLegs_92 : decode cX7_ticksByLegs 92 = .ok (.invokevirtual 307, 3) := by decide +kernel
theorem dX7_ticksByLegs_95 : decode cX7_ticksByLegs 95 = .ok (.aload_n 0, 1) := by decide +kernel
theorem dX7_ticksByLegs_96 : decode cX7_ticksByLegs 96 = .ok (.getfield 35, 3) := by decide +kernel
theorem dX7_ticksByLegs_99 : decode cX7_ticksByLegs 99 = .ok (.iload_n 3, 1) := by decide +kernel
theorem dX7_ticksByLegs_100 : decode cX7_ticksByLegs 100 = .ok (.invokevirtual 211, 3) := by decide +kernel
theorem dX7_ticksByLegs_103 : decode cX7_ticksByLegs 103 = .ok (.iinc 4 1, 3) := by decide +kernel
theorem dX7_ticksByLegs_106 : decode cX7_ticksByLegs 106 = .ok (.goto (-91), 3) := by decide +kernel
theorem dX7_ticksByLegs_109 : decode cX7_ticksByLegs 109 = .ok (.aload_n 0, 1) := by decide +kernel
theorem dX7_ticksByLegs_110 : decode cX7_ticksByLegs 110 = .ok (.getfield 35, 3) := by decide +kernel
theorem dX7_ticksByLegs_113 : decode cX7_ticksByLegs 113 = .ok (.getfield 155, 3) := by decide +kernel
theorem dX7_ticksByLegs_116 : decode cX7_ticksByLegs 116 = .ok (.ireturn, 1) := by decide +kernel
theorem dX7_bestFloor_0 : decode cX7_bestFloor 0 = .ok (.iconst 0, 1) := by decide +kernel
theorem dX7_bestFloor_1 : decode cX7_bestFloor 1 = .ok (.istore_n 3, 1) := by decide +kernel
theorem dX7_bestFloor_2 : decode cX7_bestFloor 2 = .ok (.iconst (-1), 1) := by decide +kernel
theorem dX7_bestFloor_3 : decode cX7_bestFloor 3 = .ok (.istore 4, 2) := by decide +kernel
theorem dX7_bestFloor_5 : decode cX7_bestFloor 5 = .ok (.iconst 0, 1) := by decide +kernel
theorem dX7_bestFloor_6 : decode cX7_bestFloor 6 = .ok (.istore 5, 2) := by decide +kernel
theorem dX7_bestFloor_8 : decode cX7_bestFloor 8 = .ok (.iload 5, 2) := by decide +kernel
theorem dX7_bestFloor_10 : decode cX7_bestFloor 10 = .ok (.iconst 4, 1) := by decide +kernel
theorem dX7_bestFloor_11 : decode cX7_bestFloor 11 = .ok (.if_icmp .ge 33, 3) := by decide +kernel
theorem dX7_bestFloor_14 : decode cX7_bestFloor 14 = .ok (.aload_n 0, 1) := by decide +kernel
theorem dX7_bestFloor_15 : decode cX7_bestFloor 15 = .ok (.aload_n 1, 1) := by decide +kernel
theorem dX7_bestFloor_16 : decode cX7_bestFloor 16 = .ok (.iload_n 2, 1) := by decide +kernel
theorem dX7_bestFloor_17 : decode cX7_bestFloor 17 = .ok (.iload 5, 2) := by decide +kernel
theorem dX7_bestFloor_19 : decode cX7_bestFloor 19 = .ok (.invokevirtual 202, 3) := by decide +kernel
theorem dX7_bestFloor_22 : decode cX7_bestFloor 22 = .ok (.istore 6, 2) := by decide +kernel
theorem dX7_bestFloor_24 : decode cX7_bestFloor 24 = .ok (.iload 6, 2) := by decide +kernel
theorem dX7_bestFloor_26 : decode cX7_bestFloor 26 = .ok (.iload 4, 2) := by decide +kernel
theorem dX7_bestFloor_28 : decode cX7_bestFloor 28 = .ok (.if_icmp .le 10, 3) := by decide +kernel
theorem dX7_bestFloor_31 : decode cX7_bestFloor 31 = .ok (.iload 6, 2) := by decide +kernel
theorem dX7_bestFloor_33 : decode cX7_bestFloor 33 = .ok (.istore 4, 2) := by decide +kernel
theorem dX7_bestFloor_35 : decode cX7_bestFloor 35 = .ok (.iload 5, 2) := by decide +kernel
theorem dX7_bestFloor_37 : decode cX7_bestFloor 37 = .ok (.istore_n 3, 1) := by decide +kernel
theorem dX7_bestFloor_38 : decode cX7_bestFloor 38 = .ok (.iinc 5 1, 3) := by decide +kernel
theorem dX7_bestFloor_41 : decode cX7_bestFloor 41 = .ok (.goto (-33), 3) := by decide +kernel
theorem dX7_bestFloor_44 : decode cX7_bestFloor 44 = .ok (.iload_n 3, 1) := by decide +kernel
theorem dX7_bestFloor_45 : decode cX7_bestFloor 45 = .ok (.ireturn, 1) := by decide +kernel
theorem dX7_bestEdge_0 : decode cX7_bestEdge 0 = .ok (.iconst 0, 1) := by decide +kernel
theorem dX7_bestEdge_1 : decode cX7_bestEdge 1 = .ok (.istore_n 3, 1) := by decide +kernel
theorem dX7_bestEdge_2 : decode cX7_bestEdge 2 = .ok (.iconst (-1), 1) := by decide +kernel
theorem dX7_bestEdge_3 : decode cX7_bestEdge 3 = .ok (.istore 4, 2) := by decide +kernel
theorem dX7_bestEdge_5 : decode cX7_bestEdge 5 = .ok (.iconst 0, 1) := by decide +kernel
theorem dX7_bestEdge_6 : decode cX7_bestEdge 6 = .ok (.istore 5, 2) := by decide +kernel
theorem dX7_bestEdge_8 : decode cX7_bestEdge 8 = .ok (.iload 5, 2) := by decide +kernel
theorem dX7_bestEdge_10 : decode cX7_bestEdge 10 = .ok (.bipush 9, 2) := by decide +kernel
theorem dX7_bestEdge_12 : decode cX7_bestEdge 12 = .ok (.if_icmp .gt 62, 3) := by decide +kernel
theorem dX7_bestEdge_15 : decode cX7_bestEdge 15 = .ok (.aload_n 0, 1) := by decide +kernel
theorem dX7_bestEdge_16 : decode cX7_bestEdge 16 = .ok (.getfield 35, 3) := by decide +kernel
theorem dX7_bestEdge_19 : decode cX7_bestEdge 19 = .ok (.aload_n 1, 1) := by decide +kernel
theorem dX7_bestEdge_20 : decode cX7_bestEdge 20 = .ok (.iload_n 2, 1) := by decide +kernel
theorem dX7_bestEdge_21 : decode cX7_bestEdge 21 = .ok (.iconst 0, 1) := by decide +kernel
theorem dX7_bestEdge_22 : decode cX7_bestEdge 22 = .ok (.invokevirtual 151, 3) := by decide +kernel
theorem dX7_bestEdge_25 : decode cX7_bestEdge 25 = .ok (.aload_n 0, 1) := by decide +kernel
theorem dX7_bestEdge_26 : decode cX7_bestEdge 26 = .ok (.getfield 35, 3) := by decide +kernel
theorem dX7_bestEdge_29 : decode cX7_bestEdge 29 = .ok (.iload 5, 2) := by decide +kernel
theorem dX7_bestEdge_31 : decode cX7_bestEdge 31 = .ok (.invokevirtual 310, 3) := by decide +kernel
theorem dX7_bestEdge_34 : decode cX7_bestEdge 34 = .ok (.aload_n 0, 1) := by decide +kernel
theorem dX7_bestEdge_35 : decode cX7_bestEdge 35 = .ok (.getfield 35, 3) := by decide +kernel
theorem dX7_bestEdge_38 : decode cX7_bestEdge 38 = .ok (.sipush 9999, 3) := by decide +kernel
theorem dX7_bestEdge_41 : decode cX7_bestEdge 41 = .ok (.invokevirtual 211, 3) := by decide +kernel
theorem dX7_bestEdge_44 : decode cX7_bestEdge 44 = .ok (.aload_n 0, 1) := by decide +kernel
theorem dX7_bestEdge_45 : decode cX7_bestEdge 45 = .ok (.getfield 35, 3) := by decide +kernel
theorem dX7_bestEdge_48 : decode cX7_bestEdge 48 = .ok (.getfield 155, 3) := by decide +kernel
theorem dX7_bestEdge_51 : decode cX7_bestEdge 51 = .ok (.iload 4, 2) := by decide +kernel
theorem dX7_bestEdge_53 : decode cX7_bestEdge 53 = .ok (.if_icmp .le 15, 3) := by decide +kernel
theorem dX7_bestEdge_56 : decode cX7_bestEdge 56 = .ok (.aload_n 0, 1) := by decide +kernel
theorem dX7_bestEdge_57 : decode cX7_bestEdge 57 = .ok (.getfield 35, 3) := by decide +kernel
theorem dX7_bestEdge_60 : decode cX7_bestEdge 60 = .ok (.getfield 155, 3) := by decide +kernel
theorem dX7_bestEdge_63 : decode cX7_bestEdge 63 = .ok (.istore 4, 2) := by decide +kernel
theorem dX7_bestEdge_65 : decode cX7_bestEdge 65 = .ok (.iload 5, 2) := by decide +kernel
theorem dX7_bestEdge_67 : decode cX7_bestEdge 67 = .ok (.istore_n 3, 1) := by decide +kernel
theorem dX7_bestEdge_68 : decode cX7_bestEdge 68 = .ok (.iinc 5 1, 3) := by decide +kernel
theorem dX7_bestEdge_71 : decode cX7_bestEdge 71 = .ok (.goto (-63), 3) := by decide +kernel
theorem dX7_bestEdge_74 : decode cX7_bestEdge 74 = .ok (.iload_n 3, 1) := by decide +kernel
theorem dX7_bestEdge_75 : decode cX7_bestEdge 75 = .ok (.ireturn, 1) := by decide +kernel
theorem dX7_firstMisfit_0 : decode cX7_firstMisfit 0 = .ok (.aload_n 0, 1) := by decide +kernel
theorem dX7_firstMisfit_1 : decode cX7_firstMisfit 1 = .ok (.getfield 23, 3) := by decide +kernel
theorem dX7_firstMisfit_4 : decode cX7_firstMisfit 4 = .ok (.getfield 219, 3) := by decide +kernel
theorem dX7_firstMisfit_7 : decode cX7_firstMisfit 7 = .ok (.astore_n 1, 1) := by decide +kernel
theorem dX7_firstMisfit_8 : decode cX7_firstMisfit 8 = .ok (.iconst 0, 1) := by decide +kernel
theorem dX7_firstMisfit_9 : decode cX7_firstMisfit 9 = .ok (.istore_n 2, 1) := by decide +kernel
theorem dX7_firstMisfit_10 : decode cX7_firstMisfit 10 = .ok (.iload_n 2, 1) := by decide +kernel
theorem dX7_firstMisfit_11 : decode cX7_firstMisfit 11 = .ok (.aload_n 1, 1) := by decide +kernel
theorem dX7_firstMisfit_12 : decode cX7_firstMisfit 12 = .ok (.getfield 223, 3) := by decide +kernel
theorem dX7_firstMisfit_15 : decode cX7_firstMisfit 15 = .ok (.if_icmp .ge 34, 3) := by decide +kernel
theorem dX7_firstMisfit_18 : decode cX7_firstMisfit 18 = .ok (.aload_n 1, 1) := by decide +kernel
theorem dX7_firstMisfit_19 : decode cX7_firstMisfit 19 = .ok (.iload_n 2, 1) := by decide +kernel
theorem dX7_firstMisfit_20 : decode cX7_firstMisfit 20 = .ok (.invokevirtual 313, 3) := by decide +kernel
theorem dX7_firstMisfit_23 : decode cX7_firstMisfit 23 = .ok (.ifCond .eq 20, 3) := by decide +kernel
theorem dX7_firstMisfit_26 : decode cX7_firstMisfit 26 = .ok (.aload_n 0, 1) := by decide +kernel
theorem dX7_firstMisfit_27 : decode cX7_firstMisfit 27 = .ok (.getfield 35, 3) := by decide +kernel
theorem dX7_firstMisfit_30 : decode cX7_firstMisfit 30 = .ok (.iload_n 2, 1) := by decide +kernel
theorem dX7_firstMisfit_31 : decode cX7_firstMisfit 31 = .ok (.invokevirtual 316, 3) := by decide +kernel
theorem dX7_firstMisfit_34 : decode cX7_firstMisfit 34 = .ok (.aload_n 1, 1) := by decide +kernel
theorem dX7_firstMisfit_35 : decode cX7_firstMisfit 35 = .ok (.getfield 228, 3) := by decide +kernel
theorem dX7_firstMisfit_38 : decode cX7_firstMisfit 38 = .ok (.if_icmp .le 5, 3) := by decide +kernel
theorem dX7_firstMisfit_41 : decode cX7_firstMisfit 41 = .ok (.iload_n 2, 1) := by decide +kernel
theorem dX7_firstMisfit_42 : decode cX7_firstMisfit 42 = .ok (.ireturn, 1) := by decide +kernel
theorem dX7_firstMisfit_43 : decode cX7_firstMisfit 43 = .ok (.iinc 2 1, 3) := by decide +kernel
theorem dX7_firstMisfit_46 : decode cX7_firstMisfit 46 = .ok (.goto (-36), 3) := by decide +kernel
theorem dX7_firstMisfit_49 : decode cX7_firstMisfit 49 = .ok (.bipush (-9), 2) := by decide +kernel
theorem dX7_firstMisfit_51 : decode cX7_firstMisfit 51 = .ok (.ireturn, 1) := by decide +kernel
theorem dX7_offInAll_0 : decode cX7_offInAll 0 = .ok (.aload_n 0, 1) := by decide +kernel
theorem dX7_offInAll_1 : decode cX7_offInAll 1 = .ok (.getfield 23, 3) := by decide +kernel
theorem dX7_offInAll_4 : decode cX7_offInAll 4 = .ok (.getfield 219, 3) := by decide +kernel
theorem dX7_offInAll_7 : decode cX7_offInAll 7 = .ok (.astore_n 2, 1) := by decide +kernel
theorem dX7_offInAll_8 : decode cX7_offInAll 8 = .ok (.aload_n 0, 1) := by decide +kernel
theorem dX7_offInAll_9 : decode cX7_offInAll 9 = .ok (.getfield 35, 3) := by decide +kernel
theorem dX7_offInAll_12 : decode cX7_offInAll 12 = .ok (.aload_n 1, 1) := by decide +kernel
theorem dX7_offInAll_13 : decode cX7_offInAll 13 = .ok (.aload_n 0, 1) := by decide +kernel
theorem dX7_offInAll_14 : decode cX7_offInAll 14 = .ok (.getfield 23, 3) := by decide +kernel
theorem dX7_offInAll_17 : decode cX7_offInAll 17 = .ok (.getfield 119, 3) := by decide +kernel
theorem dX7_offInAll_20 : decode cX7_offInAll 20 = .ok (.getfield 291, 3) := by decide +kernel
theorem dX7_offInAll_23 : decode cX7_offInAll 23 = .ok (.aload_n 0, 1) := by decide +kernel
theorem dX7_offInAll_24 : decode cX7_offInAll 24 = .ok (.getfield 23, 3) := by decide +kernel
theorem dX7_offInAll_27 : decode cX7_offInAll 27 = .ok (.getfield 119, 3) := by decide +kernel
theorem dX7_offInAll_30 : decode cX7_offInAll 30 = .ok (.getfield 174, 3) := by decide +kernel
theorem dX7_offInAll_33 : decode cX7_offInAll 33 = .ok (.invokevirtual 151, 3) := by decide +kernel
theorem dX7_offInAll_36 : decode cX7_offInAll 36 = .ok (.iconst 0, 1) := by decide +kernel
theorem dX7_offInAll_37 : decode cX7_offInAll 37 = .ok (.istore_n 3, 1) := by decide +kernel
theorem dX7_offInAll_38 : decode cX7_offInAll 38 = .ok (.iconst 0, 1) := by decide +kernel
theorem dX7_offInAll_39 : decode cX7_offInAll 39 = .ok (.istore 4, 2) := by decide +kernel
theorem dX7_offInAll_41 : decode cX7_offInAll 41 = .ok (.iload 4, 2) := by decide +kernel
theorem dX7_offInAll_43 : decode cX7_offInAll 43 = .ok (.aload_n 2, 1) := by decide +kernel
theorem dX7_offInAll_44 : decode cX7_offInAll 44 = .ok (.getfield 223, 3) := by decide +kernel
theorem dX7_offInAll_47 : decode cX7_offInAll 47 = .ok (.if_icmp .ge 30, 3) := by decide +kernel
theorem dX7_offInAll_50 : decode cX7_offInAll 50 = .ok (.aload_n 2, 1) := by decide +kernel
theorem dX7_offInAll_51 : decode cX7_offInAll 51 = .ok (.iload 4, 2) := by decide +kernel
theorem dX7_offInAll_53 : decode cX7_offInAll 53 = .ok (.invokevirtual 313, 3) := by decide +kernel
theorem dX7_offInAll_56 : decode cX7_offInAll 56 = .ok (.ifCond .eq 15, 3) := by decide +kernel
theorem dX7_offInAll_59 : decode cX7_offInAll 59 = .ok (.iload_n 3, 1) := by decide +kernel
theorem dX7_offInAll_60 : decode cX7_offInAll 60 = .ok (.aload_n 0, 1) := by decide +kernel
theorem dX7_offInAll_61 : decode cX7_offInAll 61 = .ok (.getfield 35, 3) := by decide +kernel
theorem dX7_offInAll_64 : decode cX7_offInAll 64 = .ok (.iload 4, 2) := by decide +kernel
theorem dX7_offInAll_66 : decode cX7_offInAll 66 = .ok (.invokevirtual 316, 3) := by decide +kernel
theorem dX7_offInAll_69 : decode cX7_offInAll 69 = .ok (.iadd, 1) := by decide +kernel
theorem dX7_offInAll_70 : decode cX7_offInAll 70 = .ok (.istore_n 3, 1) := by decide +kernel
theorem dX7_offInAll_71 : decode cX7_offInAll 71 = .ok (.iinc 4 1, 3) := by decide +kernel
theorem dX7_offInAll_74 : decode cX7_offInAll 74 = .ok (.goto (-33), 3) := by decide +kernel
theorem dX7_offInAll_77 : decode cX7_offInAll 77 = .ok (.iload_n 3, 1) := by decide +kernel
theorem dX7_offInAll_78 : decode cX7_offInAll 78 = .ok (.ireturn, 1) := by decide +kernel
theorem dJ11_isValidCodePoint_9a6ad_0 : decode cJ11_isValidCodePoint_9a6ad 0 = .ok (.iload_n 0, 1) := by decide +kernel
theorem dJ11_isValidCodePoint_9a6ad_1 : decode cJ11_isValidCodePoint_9a6ad 1 = .ok (.bipush 16, 2) := by decide +kernel
theorem dJ11_isValidCodePoint_9a6ad_3 : decode cJ11_isValidCodePoint_9a6ad 3 = .ok (.iushr, 1) := by decide +kernel
theorem dJ11_isValidCodePoint_9a6ad_4 : decode cJ11_isValidCodePoint_9a6ad 4 = .ok (.istore_n 1, 1) := by decide +kernel
theorem dJ11_isValidCodePoint_9a6ad_5 : decode cJ11_isValidCodePoint_9a6ad 5 = .ok (.iload_n 1, 1) := by decide +kernel
theorem dJ11_isValidCodePoint_9a6ad_6 : decode cJ11_isValidCodePoint_9a6ad 6 = .ok (.bipush 17, 2) := by decide +kernel
theorem dJ11_isValidCodePoint_9a6ad_8 : decode cJ11_isValidCodePoint_9a6ad 8 = .ok (.if_icmp .ge 7, 3) := by decide +kernel
theorem dJ11_isValidCodePoint_9a6ad_11 : decode cJ11_isValidCodePoint_9a6ad 11 = .ok (.iconst 1, 1) := by decide +kernel
theorem dJ11_isValidCodePoint_9a6ad_12 : decode cJ11_isValidCodePoint_9a6ad 12 = .ok (.goto 4, 3) := by decide +kernel
theorem dJ11_isValidCodePoint_9a6ad_15 : decode cJ11_isValidCodePoint_9a6ad 15 = .ok (.iconst 0, 1) := by decide +kernel
theorem dJ11_isValidCodePoint_9a6ad_16 : decode cJ11_isValidCodePoint_9a6ad 16 = .ok (.ireturn, 1) := by decide +kernel
theorem dJ11_highSurrogate_5068e_0 : decode cJ11_highSurrogate_5068e 0 = .ok (.iload_n 0, 1) := by decide +kernel
theorem dJ11_highSurrogate_5068e_1 : decode cJ11_highSurrogate_5068e 1 = .ok (.bipush 10, 2) := by decide +kernel
theorem dJ11_highSurrogate_5068e_3 : decode cJ11_highSurrogate_5068e 3 = .ok (.iushr, 1) := by decide +kernel
theorem dJ11_highSurrogate_5068e_4 : decode cJ11_highSurrogate_5068e 4 = .ok (.ldc 110, 2) := by decide +kernel
theorem dJ11_highSurrogate_5068e_6 : decode cJ11_highSurrogate_5068e 6 = .ok (.iadd, 1) := by decide +kernel
theorem dJ11_highSurrogate_5068e_7 : decode cJ11_highSurrogate_5068e 7 = .ok (.i2c, 1) := by decide +kernel
theorem dJ11_highSurrogate_5068e_8 : decode cJ11_highSurrogate_5068e 8 = .ok (.ireturn, 1) := by decide +kernel
theorem dJ11_lowSurrogate_5068e_0 : decode cJ11_lowSurrogate_5068e 0 = .ok (.iload_n 0, 1) := by decide +kernel
theorem dJ11_lowSurrogate_5068e_1 : decode cJ11_lowSurrogate_5068e 1 = .ok (.sipush 1023, 3) := by decide +kernel
theorem dJ11_lowSurrogate_5068e_4 : decode cJ11_lowSurrogate_5068e 4 = .ok (.iand, 1) := by decide +kernel
theorem dJ11_lowSurrogate_5068e_5 : decode cJ11_lowSurrogate_5068e 5 = .ok (.ldc 76, 2) := by decide +kernel
theorem dJ11_lowSurrogate_5068e_7 : decode cJ11_lowSurrogate_5068e 7 = .ok (.iadd, 1) := by decide +kernel
theorem dJ11_lowSurrogate_5068e_8 : decode cJ11_lowSurrogate_5068e 8 = .ok (.i2c, 1) := by decide +kernel
theorem dJ11_lowSurrogate_5068e_9 : decode cJ11_lowSurrogate_5068e 9 = .ok (.ireturn, 1) := by decide +kernel
theorem dJ6_bitCount_0f7a4_0 : decode cJ6_bitCount_0f7a4 0 = .ok (.iload_n 0, 1) := by decide +kernel
theorem dJ6_bitCount_0f7a4_1 : decode cJ6_bitCount_0f7a4 1 = .ok (.iload_n 0, 1) := by decide +kernel
theorem dJ6_bitCount_0f7a4_2 : decode cJ6_bitCount_0f7a4 2 = .ok (.iconst 1, 1) := by decide +kernel
theorem dJ6_bitCount_0f7a4_3 : decode cJ6_bitCount_0f7a4 3 = .ok (.iushr, 1) := by decide +kernel
theorem dJ6_bitCount_0f7a4_4 : decode cJ6_bitCount_0f7a4 4 = .ok (.ldc_w 265, 3) := by decide +kernel
theorem dJ6_bitCount_0f7a4_7 : decode cJ6_bitCount_0f7a4 7 = .ok (.iand, 1) := by decide +kernel
theorem dJ6_bitCount_0f7a4_8 : decode cJ6_bitCount_0f7a4 8 = .ok (.isub, 1) := by decide +kernel
theorem dJ6_bitCount_0f7a4_9 : decode cJ6_bitCount_0f7a4 9 = .ok (.istore_n 0, 1) := by decide +kernel
theorem dJ6_bitCount_0f7a4_10 : decode cJ6_bitCount_0f7a4 10 = .ok (.iload_n 0, 1) := by decide +kernel
theorem dJ6_bitCount_0f7a4_11 : decode cJ6_bitCount_0f7a4 11 = .ok (.ldc_w 266, 3) := by decide +kernel
theorem dJ6_bitCount_0f7a4_14 : decode cJ6_bitCount_0f7a4 14 = .ok (.iand, 1) := by decide +kernel
theorem dJ6_bitCount_0f7a4_15 : decode cJ6_bitCount_0f7a4 15 = .ok (.iload_n 0, 1) := by decide +kernel
theorem dJ6_bitCount_0f7a4_16 : decode cJ6_bitCount_0f7a4 16 = .ok (.iconst 2, 1) := by decide +kernel
theorem dJ6_bitCount_0f7a4_17 : decode cJ6_bitCount_0f7a4 17 = .ok (.iushr, 1) := by decide +kernel
theorem dJ6_bitCount_0f7a4_18 : decode cJ6_bitCount_0f7a4 18 = .ok (.ldc_w 266, 3) := by decide +kernel
theorem dJ6_bitCount_0f7a4_21 : decode cJ6_bitCount_0f7a4 21 = .ok (.iand, 1) := by decide +kernel
theorem dJ6_bitCount_0f7a4_22 : decode cJ6_bitCount_0f7a4 22 = .ok (.iadd, 1) := by decide +kernel
theorem dJ6_bitCount_0f7a4_23 : decode cJ6_bitCount_0f7a4 23 = .ok (.istore_n 0, 1) := by decide +kernel
theorem dJ6_bitCount_0f7a4_24 : decode cJ6_bitCount_0f7a4 24 = .ok (.iload_n 0, 1) := by decide +kernel
theorem dJ6_bitCount_0f7a4_25 : decode cJ6_bitCount_0f7a4 25 = .ok (.iload_n 0, 1) := by decide +kernel
theorem dJ6_bitCount_0f7a4_26 : decode cJ6_bitCount_0f7a4 26 = .ok (.iconst 4, 1) := by decide +kernel
theorem dJ6_bitCount_0f7a4_27 : decode cJ6_bitCount_0f7a4 27 = .ok (.iushr, 1) := by decide +kernel
theorem dJ6_bitCount_0f7a4_28 : decode cJ6_bitCount_0f7a4 28 = .ok (.iadd, 1) := by decide +kernel
theorem dJ6_bitCount_0f7a4_29 : decode cJ6_bitCount_0f7a4 29 = .ok (.ldc_w 267, 3) := by decide +kernel
theorem dJ6_bitCount_0f7a4_32 : decode cJ6_bitCount_0f7a4 32 = .ok (.iand, 1) := by decide +kernel
theorem dJ6_bitCount_0f7a4_33 : decode cJ6_bitCount_0f7a4 33 = .ok (.istore_n 0, 1) := by decide +kernel
theorem dJ6_bitCount_0f7a4_34 : decode cJ6_bitCount_0f7a4 34 = .ok (.iload_n 0, 1) := by decide +kernel
theorem dJ6_bitCount_0f7a4_35 : decode cJ6_bitCount_0f7a4 35 = .ok (.iload_n 0, 1) := by decide +kernel
theorem dJ6_bitCount_0f7a4_36 : decode cJ6_bitCount_0f7a4 36 = .ok (.bipush 8, 2) := by decide +kernel
theorem dJ6_bitCount_0f7a4_38 : decode cJ6_bitCount_0f7a4 38 = .ok (.iushr, 1) := by decide +kernel
theorem dJ6_bitCount_0f7a4_39 : decode cJ6_bitCount_0f7a4 39 = .ok (.iadd, 1) := by decide +kernel
theorem dJ6_bitCount_0f7a4_40 : decode cJ6_bitCount_0f7a4 40 = .ok (.istore_n 0, 1) := by decide +kernel
theorem dJ6_bitCount_0f7a4_41 : decode cJ6_bitCount_0f7a4 41 = .ok (.iload_n 0, 1) := by decide +kernel
theorem dJ6_bitCount_0f7a4_42 : decode cJ6_bitCount_0f7a4 42 = .ok (.iload_n 0, 1) := by decide +kernel
theorem dJ6_bitCount_0f7a4_43 : decode cJ6_bitCount_0f7a4 43 = .ok (.bipush 16, 2) := by decide +kernel
theorem dJ6_bitCount_0f7a4_45 : decode cJ6_bitCount_0f7a4 45 = .ok (.iushr, 1) := by decide +kernel
theorem dJ6_bitCount_0f7a4_46 : decode cJ6_bitCount_0f7a4 46 = .ok (.iadd, 1) := by decide +kernel
theorem dJ6_bitCount_0f7a4_47 : decode cJ6_bitCount_0f7a4 47 = .ok (.istore_n 0, 1) := by decide +kernel
theorem dJ6_bitCount_0f7a4_48 : decode cJ6_bitCount_0f7a4 48 = .ok (.iload_n 0, 1) := by decide +kernel
theorem dJ6_bitCount_0f7a4_49 : decode cJ6_bitCount_0f7a4 49 = .ok (.bipush 63, 2) := by decide +kernel
theorem dJ6_bitCount_0f7a4_51 : decode cJ6_bitCount_0f7a4 51 = .ok (.iand, 1) := by decide +kernel
theorem dJ6_bitCount_0f7a4_52 : decode cJ6_bitCount_0f7a4 52 = .ok (.ireturn, 1) := by decide +kernel
theorem dJ9_abs_0f7a4_0 : decode cJ9_abs_0f7a4 0 = .ok (.iload_n 0, 1) := by decide +kernel
theorem dJ9_abs_0f7a4_1 : decode cJ9_abs_0f7a4 1 = .ok (.ifCond .ge 8, 3) := by decide +kernel
theorem dJ9_abs_0f7a4_4 : decode cJ9_abs_0f7a4 4 = .ok (.iload_n 0, 1) := by decide +kernel
theorem dJ9_abs_0f7a4_5 : decode cJ9_abs_0f7a4 5 = .ok (.ineg, 1) := by decide +kernel
theorem dJ9_abs_0f7a4_6 : decode cJ9_abs_0f7a4 6 = .ok (.goto 4, 3) := by decide +kernel
theorem dJ9_abs_0f7a4_9 : decode cJ9_abs_0f7a4 9 = .ok (.iload_n 0, 1) := by decide +kernel
theorem dJ9_abs_0f7a4_10 : decode cJ9_abs_0f7a4 10 = .ok (.ireturn, 1) := by decide +kernel
theorem dJ9_max_7cf53_0 : decode cJ9_max_7cf53 0 = .ok (.iload_n 0, 1) := by decide +kernel
theorem dJ9_max_7cf53_1 : decode cJ9_max_7cf53 1 = .ok (.iload_n 1, 1) := by decide +kernel
theorem dJ9_max_7cf53_2 : decode cJ9_max_7cf53 2 = .ok (.if_icmp .lt 7, 3) := by decide +kernel
theorem dJ9_max_7cf53_5 : decode cJ9_max_7cf53 5 = .ok (.iload_n 0, 1) := by decide +kernel
theorem dJ9_max_7cf53_6 : decode cJ9_max_7cf53 6 = .ok (.goto 4, 3) := by decide +kernel
theorem dJ9_max_7cf53_9 : decode cJ9_max_7cf53 9 = .ok (.iload_n 1, 1) := by decide +kernel
theorem dJ9_max_7cf53_10 : decode cJ9_max_7cf53 10 = .ok (.ireturn, 1) := by decide +kernel
theorem dJ9_min_7cf53_0 : decode cJ9_min_7cf53 0 = .ok (.iload_n 0, 1) := by decide +kernel
theorem dJ9_min_7cf53_1 : decode cJ9_min_7cf53 1 = .ok (.iload_n 1, 1) := by decide +kernel
theorem dJ9_min_7cf53_2 : decode cJ9_min_7cf53 2 = .ok (.if_icmp .gt 7, 3) := by decide +kernel
theorem dJ9_min_7cf53_5 : decode cJ9_min_7cf53 5 = .ok (.iload_n 0, 1) := by decide +kernel
theorem dJ9_min_7cf53_6 : decode cJ9_min_7cf53 6 = .ok (.goto 4, 3) := by decide +kernel
theorem dJ9_min_7cf53_9 : decode cJ9_min_7cf53 9 = .ok (.iload_n 1, 1) := by decide +kernel
theorem dJ9_min_7cf53_10 : decode cJ9_min_7cf53 10 = .ok (.ireturn, 1) := by decide +kernel
theorem dJ0_length_8abf5_0 : decode cJ0_length_8abf5 0 = .ok (.aload_n 0, 1) := by decide +kernel
theorem dJ0_length_8abf5_1 : decode cJ0_length_8abf5 1 = .ok (.getfield 9, 3) := by decide +kernel
theorem dJ0_length_8abf5_4 : decode cJ0_length_8abf5 4 = .ok (.arraylength, 1) := by decide +kernel
theorem dJ0_length_8abf5_5 : decode cJ0_length_8abf5 5 = .ok (.aload_n 0, 1) := by decide +kernel
theorem dJ0_length_8abf5_6 : decode cJ0_length_8abf5 6 = .ok (.invokevirtual 335, 3) := by decide +kernel
theorem dJ0_length_8abf5_9 : decode cJ0_length_8abf5 9 = .ok (.ishr, 1) := by decide +kernel
theorem dJ0_length_8abf5_10 : decode cJ0_length_8abf5 10 = .ok (.ireturn, 1) := by decide +kernel
theorem dJ0_indexOf_0f7a4_0 : decode cJ0_indexOf_0f7a4 0 = .ok (.aload_n 0, 1) := by decide +kernel
theorem dJ0_indexOf_0f7a4_1 : decode cJ0_indexOf_0f7a4 1 = .ok (.iload_n 1, 1) := by decide +kernel
theorem dJ0_indexOf_0f7a4_2 : decode cJ0_indexOf_0f7a4 2 = .ok (.iconst 0, 1) := by decide +kernel
theorem dJ0_indexOf_0f7a4_3 : decode cJ0_indexOf_0f7a4 3 = .ok (.invokevirtual 633, 3) := by decide +kernel
theorem dJ0_indexOf_0f7a4_6 : decode cJ0_indexOf_0f7a4 6 = .ok (.ireturn, 1) := by decide +kernel
theorem dJ0_indexOf_7cf53_0 : decode cJ0_indexOf_7cf53 0 = .ok (.aload_n 0, 1) := by decide +kernel
theorem dJ0_indexOf_7cf53_1 : decode cJ0_indexOf_7cf53 1 = .ok (.invokevirtual 492, 3) := by decide +kernel
theorem dJ0_indexOf_7cf53_4 : decode cJ0_indexOf_7cf53 4 = .ok (.ifCond .eq 19, 3) := by decide +kernel
theorem dJ0_indexOf_7cf53_7 : decode cJ0_indexOf_7cf53 7 = .ok (.aload_n 0, 1) := by decide +kernel
theorem dJ0_indexOf_7cf53_8 : decode cJ0_indexOf_7cf53 8 = .ok (.getfield 9, 3) := by decide +kernel
theorem dJ0_indexOf_7cf53_11 : decode cJ0_indexOf_7cf53 11 = .ok (.iload_n 1, 1) := by decide +kernel
theorem dJ0_indexOf_7cf53_12 : decode cJ0_indexOf_7cf53 12 = .ok (.iload_n 2, 1) := by decide +kernel
theorem dJ0_indexOf_7cf53_13 : decode cJ0_indexOf_7cf53 13 = .ok (.aload_n 0, 1) := by decide +kernel
theorem dJ0_indexOf_7cf53_14 : decode cJ0_indexOf_7cf53 14 = .ok (.invokevirtual 505, 3) := by decide +kernel
theorem dJ0_indexOf_7cf53_17 : decode cJ0_indexOf_7cf53 17 = .ok (.invokestatic 637, 3) := by decide +kernel
theorem dJ0_indexOf_7cf53_20 : decode cJ0_indexOf_7cf53 20 = .ok (.goto 16, 3) := by decide +kernel
theorem dJ0_indexOf_7cf53_23 : decode cJ0_indexOf_7cf53 23 = .ok (.aload_n 0, 1) := by decide +kernel
theorem dJ0_indexOf_7cf53_24 : decode cJ0_indexOf_7cf53 24 = .ok (.getfield 9, 3) := by decide +kernel
theorem dJ0_indexOf_7cf53_27 : decode cJ0_indexOf_7cf53 27 = .ok (.iload_n 1, 1) := by decide +kernel
theorem dJ0_indexOf_7cf53_28 : decode cJ0_indexOf_7cf53 28 = .ok (.iload_n 2, 1) := by decide +kernel
theorem dJ0_indexOf_7cf53_29 : decode cJ0_indexOf_7cf53 29 = .ok (.aload_n 0, 1) := by decide +kernel
theorem dJ0_indexOf_7cf53_30 : decode cJ0_indexOf_7cf53 30 = .ok (.invokevirtual 505, 3) := by decide +kernel
theorem dJ0_indexOf_7cf53_33 : decode cJ0_indexOf_7cf53 33 = .ok (.invokestatic 640, 3) := by decide +kernel
theorem dJ0_indexOf_7cf53_36 : decode cJ0_indexOf_7cf53 36 = .ok (.ireturn, 1) := by decide +kernel
theorem dJ0_coder_7d493_0 : decode cJ0_coder_7d493 0 = .ok (.getstatic 38, 3) := by decide +kernel
theorem dJ0_coder_7d493_3 : decode cJ0_coder_7d493 3 = .ok (.ifCond .eq 10, 3) := by decide +kernel
theorem dJ0_coder_7d493_6 : decode cJ0_coder_7d493 6 = .ok (.aload_n 0, 1) := by decide +kernel
theorem dJ0_coder_7d493_7 : decode cJ0_coder_7d493 7 = .ok (.getfield 15, 3) := by decide +kernel
theorem dJ0_coder_7d493_10 : decode cJ0_coder_7d493 10 = .ok (.goto 4, 3) := by decide +kernel
theorem dJ0_coder_7d493_13 : decode cJ0_coder_7d493 13 = .ok (.iconst 1, 1) := by decide +kernel
theorem dJ0_coder_7d493_14 : decode cJ0_coder_7d493 14 = .ok (.ireturn, 1) := by decide +kernel
theorem dJ0_isLatin1_aae02_0 : decode cJ0_isLatin1_aae02 0 = .ok (.getstatic 38, 3) := by decide +kernel
theorem dJ0_isLatin1_aae02_3 : decode cJ0_isLatin1_aae02 3 = .ok (.ifCond .eq 14, 3) := by decide +kernel
theorem dJ0_isLatin1_aae02_6 : decode cJ0_isLatin1_aae02 6 = .ok (.aload_n 0, 1) := by decide +kernel
theorem dJ0_isLatin1_aae02_7 : decode cJ0_isLatin1_aae02 7 = .ok (.getfield 15, 3) := by decide +kernel
theorem dJ0_isLatin1_aae02_10 : decode cJ0_isLatin1_aae02 10 = .ok (.ifCond .ne 7, 3) := by decide +kernel
theorem dJ0_isLatin1_aae02_13 : decode cJ0_isLatin1_aae02 13 = .ok (.iconst 1, 1) := by decide +kernel
theorem dJ0_isLatin1_aae02_14 : decode cJ0_isLatin1_aae02 14 = .ok (.goto 4, 3) := by decide +kernel
theorem dJ0_isLatin1_aae02_17 : decode cJ0_isLatin1_aae02 17 = .ok (.iconst 0, 1) := by decide +kernel
theorem dJ0_isLatin1_aae02_18 : decode cJ0_isLatin1_aae02 18 = .ok (.ireturn, 1) := by decide +kernel
theorem dJ0_checkBoundsBeginEnd_23922_0 : decode cJ0_checkBoundsBeginEnd_23922 0 = .ok (.iload_n 0, 1) := by decide +kernel
theorem dJ0_checkBoundsBeginEnd_23922_1 : decode cJ0_checkBoundsBeginEnd_23922 1 = .ok (.iload_n 1, 1) := by decide +kernel
theorem dJ0_checkBoundsBeginEnd_23922_2 : decode cJ0_checkBoundsBeginEnd_23922 2 = .ok (.iload_n 2, 1) := by decide +kernel
theorem dJ0_checkBoundsBeginEnd_23922_3 : decode cJ0_checkBoundsBeginEnd_23922 3 = .ok (.getstatic 1053, 3) := by decide +kernel
theorem dJ0_checkBoundsBeginEnd_23922_6 : decode cJ0_checkBoundsBeginEnd_23922 6 = .ok (.invokestatic 1062, 3) := by decide +kernel
theorem dJ0_checkBoundsBeginEnd_23922_9 : decode cJ0_checkBoundsBeginEnd_23922 9 = .ok (.pop, 1) := by decide +kernel
theorem dJ0_checkBoundsBeginEnd_23922_10 : decode cJ0_checkBoundsBeginEnd_23922 10 = .ok (.return_, 1) := by decide +kernel
theorem dJ1_canEncode_9a6ad_0 : decode cJ1_canEncode_9a6ad 0 = .ok (.iload_n 0, 1) := by decide +kernel
theorem dJ1_canEncode_9a6ad_1 : decode cJ1_canEncode_9a6ad 1 = .ok (.ifCond .lt 14, 3) := by decide +kernel
theorem dJ1_canEncode_9a6ad_4 : decode cJ1_canEncode_9a6ad 4 = .ok (.iload_n 0, 1) := by decide +kernel
theorem dJ1_canEncode_9a6ad_5 : decode cJ1_canEncode_9a6ad 5 = .ok (.sipush 255, 3) := by decide +kernel
theorem dJ1_canEncode_9a6ad_8 : decode cJ1_canEncode_9a6ad 8 = .ok (.if_icmp .gt 7, 3) := by decide +kernel
theorem dJ1_canEncode_9a6ad_11 : decode cJ1_canEncode_9a6ad 11 = .ok (.iconst 1, 1) := by decide +kernel
theorem dJ1_canEncode_9a6ad_12 : decode cJ1_canEncode_9a6ad 12 = .ok (.goto 4, 3) := by decide +kernel
theorem dJ1_canEncode_9a6ad_15 : decode cJ1_canEncode_9a6ad 15 = .ok (.iconst 0, 1) := by decide +kernel
theorem dJ1_canEncode_9a6ad_16 : decode cJ1_canEncode_9a6ad 16 = .ok (.ireturn, 1) := by decide +kernel
theorem dJ1_indexOf_4cfef_0 : decode cJ1_indexOf_4cfef 0 = .ok (.iload_n 1, 1) := by decide +kernel
theorem dJ1_indexOf_4cfef_1 : decode cJ1_indexOf_4cfef 1 = .ok (.invokestatic 88, 3) := by decide +kernel
theorem dJ1_indexOf_4cfef_4 : decode cJ1_indexOf_4cfef 4 = .ok (.ifCond .ne 5, 3) := by decide +kernel
theorem dJ1_indexOf_4cfef_7 : decode cJ1_indexOf_4cfef 7 = .ok (.iconst (-1), 1) := by decide +kernel
theorem dJ1_indexOf_4cfef_8 : decode cJ1_indexOf_4cfef 8 = .ok (.ireturn, 1) := by decide +kernel
theorem dJ1_indexOf_4cfef_9 : decode cJ1_indexOf_4cfef 9 = .ok (.iload_n 2, 1) := by decide +kernel
theorem dJ1_indexOf_4cfef_10 : decode cJ1_indexOf_4cfef 10 = .ok (.iconst 0, 1) := by decide +kernel
theorem dJ1_indexOf_4cfef_11 : decode cJ1_indexOf_4cfef 11 = .ok (.invokestatic 92, 3) := by decide +kernel
theorem dJ1_indexOf_4cfef_14 : decode cJ1_indexOf_4cfef 14 = .ok (.istore_n 2, 1) := by decide +kernel
theorem dJ1_indexOf_4cfef_15 : decode cJ1_indexOf_4cfef 15 = .ok (.iload_n 3, 1) := by decide +kernel
theorem dJ1_indexOf_4cfef_16 : decode cJ1_indexOf_4cfef 16 = .ok (.aload_n 0, 1) := by decide +kernel
theorem dJ1_indexOf_4cfef_17 : decode cJ1_indexOf_4cfef 17 = .ok (.arraylength, 1) := by decide +kernel
theorem dJ1_indexOf_4cfef_18 : decode cJ1_indexOf_4cfef 18 = .ok (.invokestatic 38, 3) := by decide +kernel
theorem dJ1_indexOf_4cfef_21 : decode cJ1_indexOf_4cfef 21 = .ok (.istore_n 3, 1) := by decide +kernel
theorem dJ1_indexOf_4cfef_22 : decode cJ1_indexOf_4cfef 22 = .ok (.iload_n 2, 1) := by decide +kernel
theorem dJ1_indexOf_4cfef_23 : decode cJ1_indexOf_4cfef 23 = .ok (.iload_n 3, 1) := by decide +kernel
theorem dJ1_indexOf_4cfef_24 : decode cJ1_indexOf_4cfef 24 = .ok (.if_icmp .lt 5, 3) := by decide +kernel
theorem dJ1_indexOf_4cfef_27 : decode cJ1_indexOf_4cfef 27 = .ok (.iconst (-1), 1) := by decide +kernel
theorem dJ1_indexOf_4cfef_28 : decode cJ1_indexOf_4cfef 28 = .ok (.ireturn, 1) := by decide +kernel
theorem dJ1_indexOf_4cfef_29 : decode cJ1_indexOf_4cfef 29 = .ok (.aload_n 0, 1) := by decide +kernel
theorem dJ1_indexOf_4cfef_30 : decode cJ1_indexOf_4cfef 30 = .ok (.iload_n 1, 1) := by decide +kernel
theorem dJ1_indexOf_4cfef_31 : decode cJ1_indexOf_4cfef 31 = .ok (.iload_n 2, 1) := by decide +kernel
theorem dJ1_indexOf_4cfef_32 : decode cJ1_indexOf_4cfef 32 = .ok (.iload_n 3, 1) := by decide +kernel
theorem dJ1_indexOf_4cfef_33 : decode cJ1_indexOf_4cfef 33 = .ok (.invokestatic 95, 3) := by decide +kernel
theorem dJ1_indexOf_4cfef_36 : decode cJ1_indexOf_4cfef 36 = .ok (.ireturn, 1) := by decide +kernel
theorem dJ1_indexOfChar_4cfef_0 : decode cJ1_indexOfChar_4cfef 0 = .ok (.iload_n 1, 1) := by decide +kernel
theorem dJ1_indexOfChar_4cfef_1 : decode cJ1_indexOfChar_4cfef 1 = .ok (.i2b, 1) := by decide +kernel
theorem dJ1_indexOfChar_4cfef_2 : decode cJ1_indexOfChar_4cfef 2 = .ok (.istore 4, 2) := by decide +kernel
theorem dJ1_indexOfChar_4cfef_4 : decode cJ1_indexOfChar_4cfef 4 = .ok (.iload_n 2, 1) := by decide +kernel
theorem dJ1_indexOfChar_4cfef_5 : decode cJ1_indexOfChar_4cfef 5 = .ok (.istore 5, 2) := by decide +kernel
theorem dJ1_indexOfChar_4cfef_7 : decode cJ1_indexOfChar_4cfef 7 = .ok (.iload 5, 2) := by decide +kernel
theorem dJ1_indexOfChar_4cfef_9 : decode cJ1_indexOfChar_4cfef 9 = .ok (.iload_n 3, 1) := by decide +kernel
theorem dJ1_indexOfChar_4cfef_10 : decode cJ1_indexOfChar_4cfef 10 = .ok (.if_icmp .ge 21, 3) := by decide +kernel
theorem dJ1_indexOfChar_4cfef_13 : decode cJ1_indexOfChar_4cfef 13 = .ok (.aload_n 0, 1) := by decide +kernel
theorem dJ1_indexOfChar_4cfef_14 : decode cJ1_indexOfChar_4cfef 14 = .ok (.iload 5, 2) := by decide +kernel
theorem dJ1_indexOfChar_4cfef_16 : decode cJ1_indexOfChar_4cfef 16 = .ok (.baload, 1) := by decide +kernel
theorem dJ1_indexOfChar_4cfef_17 : decode cJ1_indexOfChar_4cfef 17 = .ok (.iload 4, 2) := by decide +kernel
theorem dJ1_indexOfChar_4cfef_19 : decode cJ1_indexOfChar_4cfef 19 = .ok (.if_icmp .ne 6, 3) := by decide +kernel
theorem dJ1_indexOfChar_4cfef_22 : decode cJ1_indexOfChar_4cfef 22 = .ok (.iload 5, 2) := by decide +kernel
theorem dJ1_indexOfChar_4cfef_24 : decode cJ1_indexOfChar_4cfef 24 = .ok (.ireturn, 1) := by decide +kernel
theorem dJ1_indexOfChar_4cfef_25 : decode cJ1_indexOfChar_4cfef 25 = .ok (.iinc 5 1, 3) := by decide +kernel
theorem dJ1_indexOfChar_4cfef_28 : decode cJ1_indexOfChar_4cfef 28 = .ok (.goto (-21), 3) := by decide +kernel
theorem dJ1_indexOfChar_4cfef_31 : decode cJ1_indexOfChar_4cfef 31 = .ok (.iconst (-1), 1) := by decide +kernel
theorem dJ1_indexOfChar_4cfef_32 : decode cJ1_indexOfChar_4cfef 32 = .ok (.ireturn, 1) := by decide +kernel
theorem dJ2_getChar_3b067_0 : decode cJ2_getChar_3b067 0 = .ok (.getstatic 44, 3) := by decide +kernel
theorem dJ2_getChar_3b067_3 : decode cJ2_getChar_3b067 3 = .ok (.ifCond .ne 25, 3) := by decide +kernel
theorem dJ2_getChar_3b067_6 : decode cJ2_getChar_3b067 6 = .ok (.iload_n 1, 1) := by decide +kernel
theorem dJ2_getChar_3b067_7 : decode cJ2_getChar_3b067 7 = .ok (.ifCond .lt 11, 3) := by decide +kernel
theorem dJ2_getChar_3b067_10 : decode cJ2_getChar_3b067 10 = .ok (.iload_n 1, 1) := by decide +kernel
theorem dJ2_getChar_3b067_11 : decode cJ2_getChar_3b067 11 = .ok (.aload_n 0, 1) := by decide +kernel
theorem dJ2_getChar_3b067_12 : decode cJ2_getChar_3b067 12 = .ok (.invokestatic 48, 3) := by decide +kernel
theorem dJ2_getChar_3b067_15 : decode cJ2_getChar_3b067 15 = .ok (.if_icmp .lt 13, 3) := by decide +kernel
theorem dJ2_getChar_3b067_18 : decode cJ2_getChar_3b067 18 = .ok (.new 52, 3) := by decide +kernel
theorem dJ2_getChar_3b067_21 : decode cJ2_getChar_3b067 21 = .ok (.dup, 1) := by decide +kernel
theorem dJ2_getChar_3b067_22 : decode cJ2_getChar_3b067 22 = .ok (.ldc 54, 2) := by decide +kernel
theorem dJ2_getChar_3b067_24 : decode cJ2_getChar_3b067 24 = .ok (.invokespecial 56, 3) := by decide +kernel
theorem dJ2_getChar_3b067_27 : decode cJ2_getChar_3b067 27 = .ok (.athrow, 1) := by decide +kernel
theorem dJ2_getChar_3b067_28 : decode cJ2_getChar_3b067 28 = .ok (.iload_n 1, 1) := by decide +kernel
theorem dJ2_getChar_3b067_29 : decode cJ2_getChar_3b067 29 = .ok (.iconst 1, 1) := by decide +kernel
theorem dJ2_getChar_3b067_30 : decode cJ2_getChar_3b067 30 = .ok (.ishl, 1) := by decide +kernel
theorem dJ2_getChar_3b067_31 : decode cJ2_getChar_3b067 31 = .ok (.istore_n 1, 1) := by decide +kernel
theorem dJ2_getChar_3b067_32 : decode cJ2_getChar_3b067 32 = .ok (.aload_n 0, 1) := by decide +kernel
theorem dJ2_getChar_3b067_33 : decode cJ2_getChar_3b067 33 = .ok (.iload_n 1, 1) := by decide +kernel
theorem dJ2_getChar_3b067_34 : decode cJ2_getChar_3b067 34 = .ok (.iinc 1 1, 3) := by decide +kernel
theorem dJ2_getChar_3b067_37 : decode cJ2_getChar_3b067 37 = .ok (.baload, 1) := by decide +kernel
theorem dJ2_getChar_3b067_38 : decode cJ2_getChar_3b067 38 = .ok (.sipush 255, 3) := by decide +kernel
theorem dJ2_getChar_3b067_41 : decode cJ2_getChar_3b067 41 = .ok (.iand, 1) := by decide +kernel
theorem dJ2_getChar_3b067_42 : decode cJ2_getChar_3b067 42 = .ok (.getstatic 59, 3) := by decide +kernel
theorem dJ2_getChar_3b067_45 : decode cJ2_getChar_3b067 45 = .ok (.ishl, 1) := by decide +kernel
theorem dJ2_getChar_3b067_46 : decode cJ2_getChar_3b067 46 = .ok (.aload_n 0, 1) := by decide +kernel
theorem dJ2_getChar_3b067_47 : decode cJ2_getChar_3b067 47 = .ok (.iload_n 1, 1) := by decide +kernel
theorem dJ2_getChar_3b067_48 : decode cJ2_getChar_3b067 48 = .ok (.baload, 1) := by decide +kernel
theorem dJ2_getChar_3b067_49 : decode cJ2_getChar_3b067 49 = .ok (.sipush 255, 3) := by decide +kernel
theorem dJ2_getChar_3b067_52 : decode cJ2_getChar_3b067 52 = .ok (.iand, 1) := by decide +kernel
theorem dJ2_getChar_3b067_53 : decode cJ2_getChar_3b067 53 = .ok (.getstatic 63, 3) := by decide +kernel
theorem dJ2_getChar_3b067_56 : decode cJ2_getChar_3b067 56 = .ok (.ishl, 1) := by decide +kernel
theorem dJ2_getChar_3b067_57 : decode cJ2_getChar_3b067 57 = .ok (.ior, 1) := by decide +kernel
theorem dJ2_getChar_3b067_58 : decode cJ2_getChar_3b067 58 = .ok (.i2c, 1) := by decide +kernel
theorem dJ2_getChar_3b067_59 : decode cJ2_getChar_3b067 59 = .ok (.ireturn, 1) := by decide +kernel
theorem dJ2_length_9d52b_0 : decode cJ2_length_9d52b 0 = .ok (.aload_n 0, 1) := by decide +kernel
theorem dJ2_length_9d52b_1 : decode cJ2_length_9d52b 1 = .ok (.arraylength, 1) := by decide +kernel
theorem dJ2_length_9d52b_2 : decode cJ2_length_9d52b 2 = .ok (.iconst 1, 1) := by decide +kernel
theorem dJ2_length_9d52b_3 : decode cJ2_length_9d52b 3 = .ok (.ishr, 1) := by decide +kernel
theorem dJ2_length_9d52b_4 : decode cJ2_length_9d52b 4 = .ok (.ireturn, 1) := by decide +kernel
theorem dJ2_indexOf_4cfef_0 : decode cJ2_indexOf_4cfef 0 = .ok (.iload_n 2, 1) := by decide +kernel
theorem dJ2_indexOf_4cfef_1 : decode cJ2_indexOf_4cfef 1 = .ok (.iconst 0, 1) := by decide +kernel
theorem dJ2_indexOf_4cfef_2 : decode cJ2_indexOf_4cfef 2 = .ok (.invokestatic 224, 3) := by decide +kernel
theorem dJ2_indexOf_4cfef_5 : decode cJ2_indexOf_4cfef 5 = .ok (.istore_n 2, 1) := by decide +kernel
theorem dJ2_indexOf_4cfef_6 : decode cJ2_indexOf_4cfef 6 = .ok (.iload_n 3, 1) := by decide +kernel
theorem dJ2_indexOf_4cfef_7 : decode cJ2_indexOf_4cfef 7 = .ok (.aload_n 0, 1) := by decide +kernel
theorem dJ2_indexOf_4cfef_8 : decode cJ2_indexOf_4cfef 8 = .ok (.arraylength, 1) := by decide +kernel
theorem dJ2_indexOf_4cfef_9 : decode cJ2_indexOf_4cfef 9 = .ok (.iconst 1, 1) := by decide +kernel
theorem dJ2_indexOf_4cfef_10 : decode cJ2_indexOf_4cfef 10 = .ok (.ishr, 1) := by decide +kernel
theorem dJ2_indexOf_4cfef_11 : decode cJ2_indexOf_4cfef 11 = .ok (.invokestatic 183, 3) := by decide +kernel
theorem dJ2_indexOf_4cfef_14 : decode cJ2_indexOf_4cfef 14 = .ok (.istore_n 3, 1) := by decide +kernel
theorem dJ2_indexOf_4cfef_15 : decode cJ2_indexOf_4cfef 15 = .ok (.iload_n 2, 1) := by decide +kernel
theorem dJ2_indexOf_4cfef_16 : decode cJ2_indexOf_4cfef 16 = .ok (.iload_n 3, 1) := by decide +kernel
theorem dJ2_indexOf_4cfef_17 : decode cJ2_indexOf_4cfef 17 = .ok (.if_icmp .lt 5, 3) := by decide +kernel
theorem dJ2_indexOf_4cfef_20 : decode cJ2_indexOf_4cfef 20 = .ok (.iconst (-1), 1) := by decide +kernel
theorem dJ2_indexOf_4cfef_21 : decode cJ2_indexOf_4cfef 21 = .ok (.ireturn, 1) := by decide +kernel
theorem dJ2_indexOf_4cfef_22 : decode cJ2_indexOf_4cfef 22 = .ok (.iload_n 1, 1) := by decide +kernel
theorem dJ2_indexOf_4cfef_23 : decode cJ2_indexOf_4cfef 23 = .ok (.ldc 227, 2) := by decide +kernel
theorem dJ2_indexOf_4cfef_25 : decode cJ2_indexOf_4cfef 25 = .ok (.if_icmp .ge 11, 3) := by decide +kernel
theorem dJ2_indexOf_4cfef_28 : decode cJ2_indexOf_4cfef 28 = .ok (.aload_n 0, 1) := by decide +kernel
theorem dJ2_indexOf_4cfef_29 : decode cJ2_indexOf_4cfef 29 = .ok (.iload_n 1, 1) := by decide +kernel
theorem dJ2_indexOf_4cfef_30 : decode cJ2_indexOf_4cfef 30 = .ok (.iload_n 2, 1) := by decide +kernel
theorem dJ2_indexOf_4cfef_31 : decode cJ2_indexOf_4cfef 31 = .ok (.iload_n 3, 1) := by decide +kernel
theorem dJ2_indexOf_4cfef_32 : decode cJ2_indexOf_4cfef 32 = .ok (.invokestatic 228, 3) := by decide +kernel
theorem dJ2_indexOf_4cfef_35 : decode cJ2_indexOf_4cfef 35 = .ok (.ireturn, 1) := by decide +kernel
theorem dJ2_indexOf_4cfef_36 : decode cJ2_indexOf_4cfef 36 = .ok (.aload_n 0, 1) := by decide +kernel
theorem dJ2_indexOf_4cfef_37 : decode cJ2_indexOf_4cfef 37 = .ok (.iload_n 1, 1) := by decide +kernel
theorem dJ2_indexOf_4cfef_38 : decode cJ2_indexOf_4cfef 38 = .ok (.iload_n 2, 1) := by decide +kernel
theorem dJ2_indexOf_4cfef_39 : decode cJ2_indexOf_4cfef 39 = .ok (.iload_n 3, 1) := by decide +kernel
theorem dJ2_indexOf_4cfef_40 : decode cJ2_indexOf_4cfef 40 = .ok (.invokestatic 232, 3) := by decide +kernel
theorem dJ2_indexOf_4cfef_43 : decode cJ2_indexOf_4cfef 43 = .ok (.ireturn, 1) := by decide +kernel
theorem dJ2_indexOfChar_4cfef_0 : decode cJ2_indexOfChar_4cfef 0 = .ok (.iload_n 2, 1) := by decide +kernel
theorem dJ2_indexOfChar_4cfef_1 : decode cJ2_indexOfChar_4cfef 1 = .ok (.iload_n 3, 1) := by decide +kernel
theorem dJ2_indexOfChar_4cfef_2 : decode cJ2_indexOfChar_4cfef 2 = .ok (.aload_n 0, 1) := by decide +kernel
theorem dJ2_indexOfChar_4cfef_3 : decode cJ2_indexOfChar_4cfef 3 = .ok (.invokestatic 96, 3) := by decide +kernel
theorem dJ2_indexOfChar_4cfef_6 : decode cJ2_indexOfChar_4cfef 6 = .ok (.aload_n 0, 1) := by decide +kernel
theorem dJ2_indexOfChar_4cfef_7 : decode cJ2_indexOfChar_4cfef 7 = .ok (.iload_n 1, 1) := by decide +kernel
theorem dJ2_indexOfChar_4cfef_8 : decode cJ2_indexOfChar_4cfef 8 = .ok (.iload_n 2, 1) := by decide +kernel
theorem dJ2_indexOfChar_4cfef_9 : decode cJ2_indexOfChar_4cfef 9 = .ok (.iload_n 3, 1) := by decide +kernel
theorem dJ2_indexOfChar_4cfef_10 : decode cJ2_indexOfChar_4cfef 10 = .ok (.invokestatic 244, 3) := by decide +kernel
theorem dJ2_indexOfChar_4cfef_13 : decode cJ2_indexOfChar_4cfef 13 = .ok (.ireturn, 1) := by decide +kernel
theorem dJ2_indexOfCharUnsafe_4cfef_0 : decode cJ2_indexOfCharUnsafe_4cfef 0 = .ok (.iload_n 2, 1) := by decide +kernel
theorem dJ2_indexOfCharUnsafe_4cfef_1 : decode cJ2_indexOfCharUnsafe_4cfef 1 = .ok (.istore 4, 2) := by decide +kernel
theorem dJ2_indexOfCharUnsafe_4cfef_3 : decode cJ2_indexOfCharUnsafe_4cfef 3 = .ok (.iload 4, 2) := by decide +kernel
theorem dJ2_indexOfCharUnsafe_4cfef_5 : decode cJ2_indexOfCharUnsafe_4cfef 5 = .ok (.iload_n 3, 1) := by decide +kernel
theorem dJ2_indexOfCharUnsafe_4cfef_6 : decode cJ2_indexOfCharUnsafe_4cfef 6 = .ok (.if_icmp .ge 22, 3) := by decide +kernel
theorem dJ2_indexOfCharUnsafe_4cfef_9 : decode cJ2_indexOfCharUnsafe_4cfef 9 = .ok (.aload_n 0, 1) := by decide +kernel
theorem dJ2_indexOfCharUnsafe_4cfef_10 : decode cJ2_indexOfCharUnsafe_4cfef 10 = .ok (.iload 4, 2) := by decide +kernel
theorem dJ2_indexOfCharUnsafe_4cfef_12 : decode cJ2_indexOfCharUnsafe_4cfef 12 = .ok (.invokestatic 71, 3) := by decide +kernel
theorem dJ2_indexOfCharUnsafe_4cfef_15 : decode cJ2_indexOfCharUnsafe_4cfef 15 = .ok (.iload_n 1, 1) := by decide +kernel
theorem dJ2_indexOfCharUnsafe_4cfef_16 : decode cJ2_indexOfCharUnsafe_4cfef 16 = .ok (.if_icmp .ne 6, 3) := by decide +kernel
theorem dJ2_indexOfCharUnsafe_4cfef_19 : decode cJ2_indexOfCharUnsafe_4cfef 19 = .ok (.iload 4, 2) := by decide +kernel
theorem dJ2_indexOfCharUnsafe_4cfef_21 : decode cJ2_indexOfCharUnsafe_4cfef 21 = .ok (.ireturn, 1) := by decide +kernel
theorem dJ2_indexOfCharUnsafe_4cfef_22 : decode cJ2_indexOfCharUnsafe_4cfef 22 = .ok (.iinc 4 1, 3) := by decide +kernel
theorem dJ2_indexOfCharUnsafe_4cfef_25 : decode cJ2_indexOfCharUnsafe_4cfef 25 = .ok (.goto (-22), 3) := by decide +kernel
theorem dJ2_indexOfCharUnsafe_4cfef_28 : decode cJ2_indexOfCharUnsafe_4cfef 28 = .ok (.iconst (-1), 1) := by decide +kernel
theorem dJ2_indexOfCharUnsafe_4cfef_29 : decode cJ2_indexOfCharUnsafe_4cfef 29 = .ok (.ireturn, 1) := by decide +kernel
theorem dJ2_indexOfSupplementary_4cfef_0 : decode cJ2_indexOfSupplementary_4cfef 0 = .ok (.iload_n 1, 1) := by decide +kernel
theorem dJ2_indexOfSupplementary_4cfef_1 : decode cJ2_indexOfSupplementary_4cfef 1 = .ok (.invokestatic 164, 3) := by decide +kernel
theorem dJ2_indexOfSupplementary_4cfef_4 : decode cJ2_indexOfSupplementary_4cfef 4 = .ok (.ifCond .eq 65, 3) := by decide +kernel
theorem dJ2_indexOfSupplementary_4cfef_7 : decode cJ2_indexOfSupplementary_4cfef 7 = .ok (.iload_n 1, 1) := by decide +kernel
theorem dJ2_indexOfSupplementary_4cfef_8 : decode cJ2_indexOfSupplementary_4cfef 8 = .ok (.invokestatic 157, 3) := by decide +kernel
theorem dJ2_indexOfSupplementary_4cfef_11 : decode cJ2_indexOfSupplementary_4cfef 11 = .ok (.istore 4, 2) := by decide +kernel
theorem dJ2_indexOfSupplementary_4cfef_13 : decode cJ2_indexOfSupplementary_4cfef 13 = .ok (.iload_n 1, 1) := by decide +kernel
theorem dJ2_indexOfSupplementary_4cfef_14 : decode cJ2_indexOfSupplementary_4cfef 14 = .ok (.invokestatic 161, 3) := by decide +kernel
theorem dJ2_indexOfSupplementary_4cfef_17 : decode cJ2_indexOfSupplementary_4cfef 17 = .ok (.istore 5, 2) := by decide +kernel
theorem dJ2_indexOfSupplementary_4cfef_19 : decode cJ2_indexOfSupplementary_4cfef 19 = .ok (.iload_n 2, 1) := by decide +kernel
theorem dJ2_indexOfSupplementary_4cfef_20 : decode cJ2_indexOfSupplementary_4cfef 20 = .ok (.iload_n 3, 1) := by decide +kernel
theorem dJ2_indexOfSupplementary_4cfef_21 : decode cJ2_indexOfSupplementary_4cfef 21 = .ok (.aload_n 0, 1) := by decide +kernel
theorem dJ2_indexOfSupplementary_4cfef_22 : decode cJ2_indexOfSupplementary_4cfef 22 = .ok (.invokestatic 96, 3) := by decide +kernel
theorem dJ2_indexOfSupplementary_4cfef_25 : decode cJ2_indexOfSupplementary_4cfef 25 = .ok (.iload_n 2, 1) := by decide +kernel
theorem dJ2_indexOfSupplementary_4cfef_26 : decode cJ2_indexOfSupplementary_4cfef 26 = .ok (.istore 6, 2) := by decide +kernel
theorem dJ2_indexOfSupplementary_4cfef_28 : decode cJ2_indexOfSupplementary_4cfef 28 = .ok (.iload 6, 2) := by decide +kernel
theorem dJ2_indexOfSupplementary_4cfef_30 : decode cJ2_indexOfSupplementary_4cfef 30 = .ok (.iload_n 3, 1) := by decide +kernel
theorem dJ2_indexOfSupplementary_4cfef_31 : decode cJ2_indexOfSupplementary_4cfef 31 = .ok (.iconst 1, 1) := by decide +kernel
theorem dJ2_indexOfSupplementary_4cfef_32 : decode cJ2_indexOfSupplementary_4cfef 32 = .ok (.isub, 1) := by decide +kernel
theorem dJ2_indexOfSupplementary_4cfef_33 : decode cJ2_indexOfSupplementary_4cfef 33 = .ok (.if_icmp .ge 36, 3) := by decide +kernel
theorem dJ2_indexOfSupplementary_4cfef_36 : decode cJ2_indexOfSupplementary_4cfef 36 = .ok (.aload_n 0, 1) := by decide +kernel
theorem dJ2_indexOfSupplementary_4cfef_37 : decode cJ2_indexOfSupplementary_4cfef 37 = .ok (.iload 6, 2) := by decide +kernel
theorem dJ2_indexOfSupplementary_4cfef_39 : decode cJ2_indexOfSupplementary_4cfef 39 = .ok (.invokestatic 71, 3) := by decide +kernel
theorem dJ2_indexOfSupplementary_4cfef_42 : decode cJ2_indexOfSupplementary_4cfef 42 = .ok (.iload 4, 2) := by decide +kernel
theorem dJ2_indexOfSupplementary_4cfef_44 : decode cJ2_indexOfSupplementary_4cfef 44 = .ok (.if_icmp .ne 19, 3) := by decide +kernel
theorem dJ2_indexOfSupplementary_4cfef_47 : decode cJ2_indexOfSupplementary_4cfef 47 = .ok (.aload_n 0, 1) := by decide +kernel
theorem dJ2_indexOfSupplementary_4cfef_48 : decode cJ2_indexOfSupplementary_4cfef 48 = .ok (.iload 6, 2) := by decide +kernel
theorem dJ2_indexOfSupplementary_4cfef_50 : decode cJ2_indexOfSupplementary_4cfef 50 = .ok (.iconst 1, 1) := by decide +kernel
theorem dJ2_indexOfSupplementary_4cfef_51 : decode cJ2_indexOfSupplementary_4cfef 51 = .ok (.iadd, 1) := by decide +kernel
theorem dJ2_indexOfSupplementary_4cfef_52 : decode cJ2_indexOfSupplementary_4cfef 52 = .ok (.invokestatic 71, 3) := by decide +kernel
theorem dJ2_indexOfSupplementary_4cfef_55 : decode cJ2_indexOfSupplementary_4cfef 55 = .ok (.iload 5, 2) := by decide +kernel
theorem dJ2_indexOfSupplementary_4cfef_57 : decode cJ2_indexOfSupplementary_4cfef 57 = .ok (.if_icmp .ne 6, 3) := by decide +kernel
theorem dJ2_indexOfSupplementary_4cfef_60 : decode cJ2_indexOfSupplementary_4cfef 60 = .ok (.iload 6, 2) := by decide +kernel
theorem dJ2_indexOfSupplementary_4cfef_62 : decode cJ2_indexOfSupplementary_4cfef 62 = .ok (.ireturn, 1) := by decide +kernel
theorem dJ2_indexOfSupplementary_4cfef_63 : decode cJ2_indexOfSupplementary_4cfef 63 = .ok (.iinc 6 1, 3) := by decide +kernel
theorem dJ2_indexOfSupplementary_4cfef_66 : decode cJ2_indexOfSupplementary_4cfef 66 = .ok (.goto (-38), 3) := by decide +kernel
theorem dJ2_indexOfSupplementary_4cfef_69 : decode cJ2_indexOfSupplementary_4cfef 69 = .ok (.iconst (-1), 1) := by decide +kernel
theorem dJ2_indexOfSupplementary_4cfef_70 : decode cJ2_indexOfSupplementary_4cfef 70 = .ok (.ireturn, 1) := by decide +kernel
theorem dJ2_checkBoundsBeginEnd_d044e_0 : decode cJ2_checkBoundsBeginEnd_d044e 0 = .ok (.iload_n 0, 1) := by decide +kernel
theorem dJ2_checkBoundsBeginEnd_d044e_1 : decode cJ2_checkBoundsBeginEnd_d044e 1 = .ok (.iload_n 1, 1) := by decide +kernel
theorem dJ2_checkBoundsBeginEnd_d044e_2 : decode cJ2_checkBoundsBeginEnd_d044e 2 = .ok (.aload_n 2, 1) := by decide +kernel
theorem dJ2_checkBoundsBeginEnd_d044e_3 : decode cJ2_checkBoundsBeginEnd_d044e 3 = .ok (.invokestatic 48, 3) := by decide +kernel
theorem dJ2_checkBoundsBeginEnd_d044e_6 : decode cJ2_checkBoundsBeginEnd_d044e 6 = .ok (.invokestatic 241, 3) := by decide +kernel
theorem dJ2_checkBoundsBeginEnd_d044e_9 : decode cJ2_checkBoundsBeginEnd_d044e 9 = .ok (.return_, 1) := by decide +kernel
theorem dJ7_fill_53178_0 : decode cJ7_fill_53178 0 = .ok (.iconst 0, 1) := by decide +kernel
theorem dJ7_fill_53178_1 : decode cJ7_fill_53178 1 = .ok (.istore_n 2, 1) := by decide +kernel
theorem dJ7_fill_53178_2 : decode cJ7_fill_53178 2 = .ok (.aload_n 0, 1) := by decide +kernel
theorem dJ7_fill_53178_3 : decode cJ7_fill_53178 3 = .ok (.arraylength, 1) := by decide +kernel
theorem dJ7_fill_53178_4 : decode cJ7_fill_53178 4 = .ok (.istore_n 3, 1) := by decide +kernel
theorem dJ7_fill_53178_5 : decode cJ7_fill_53178 5 = .ok (.iload_n 2, 1) := by decide +kernel
theorem dJ7_fill_53178_6 : decode cJ7_fill_53178 6 = .ok (.iload_n 3, 1) := by decide +kernel
theorem dJ7_fill_53178_7 : decode cJ7_fill_53178 7 = .ok (.if_icmp .ge 13, 3) := by decide +kernel
theorem dJ7_fill_53178_10 : decode cJ7_fill_53178 10 = .ok (.aload_n 0, 1) := by decide +kernel
theorem dJ7_fill_53178_11 : decode cJ7_fill_53178 11 = .ok (.iload_n 2, 1) := by decide +kernel
theorem dJ7_fill_53178_12 : decode cJ7_fill_53178 12 = .ok (.iload_n 1, 1) := by decide +kernel
theorem dJ7_fill_53178_13 : decode cJ7_fill_53178 13 = .ok (.iastore, 1) := by decide +kernel
theorem dJ7_fill_53178_14 : decode cJ7_fill_53178 14 = .ok (.iinc 2 1, 3) := by decide +kernel
theorem dJ7_fill_53178_17 : decode cJ7_fill_53178 17 = .ok (.goto (-12), 3) := by decide +kernel
theorem dJ7_fill_53178_20 : decode cJ7_fill_53178 20 = .ok (.return_, 1) := by decide +kernel
theorem dJ7_copyOf_59c91_0 : decode cJ7_copyOf_59c91 0 = .ok (.iload_n 1, 1) := by decide +kernel
theorem dJ7_copyOf_59c91_1 : decode cJ7_copyOf_59c91 1 = .ok (.aload_n 0, 1) := by decide +kernel
theorem dJ7_copyOf_59c91_2 : decode cJ7_copyOf_59c91 2 = .ok (.arraylength, 1) := by decide +kernel
theorem dJ7_copyOf_59c91_3 : decode cJ7_copyOf_59c91 3 = .ok (.if_icmp .ne 11, 3) := by decide +kernel
theorem dJ7_copyOf_59c91_6 : decode cJ7_copyOf_59c91 6 = .ok (.aload_n 0, 1) := by decide +kernel
theorem dJ7_copyOf_59c91_7 : decode cJ7_copyOf_59c91 7 = .ok (.invokevirtual 316, 3) := by decide +kernel
theorem dJ7_copyOf_59c91_10 : decode cJ7_copyOf_59c91 10 = .ok (.checkcast 317, 3) := by decide +kernel
theorem dJ7_copyOf_59c91_13 : decode cJ7_copyOf_59c91 13 = .ok (.areturn, 1) := by decide +kernel
theorem dJ7_copyOf_59c91_14 : decode cJ7_copyOf_59c91 14 = .ok (.iload_n 1, 1) := by decide +kernel
theorem dJ7_copyOf_59c91_15 : decode cJ7_copyOf_59c91 15 = .ok (.newarray .int, 2) := by decide +kernel
theorem dJ7_copyOf_59c91_17 : decode cJ7_copyOf_59c91 17 = .ok (.astore_n 2, 1) := by decide +kernel
theorem dJ7_copyOf_59c91_18 : decode cJ7_copyOf_59c91 18 = .ok (.aload_n 0, 1) := by decide +kernel
theorem dJ7_copyOf_59c91_19 : decode cJ7_copyOf_59c91 19 = .ok (.iconst 0, 1) := by decide +kernel
theorem dJ7_copyOf_59c91_20 : decode cJ7_copyOf_59c91 20 = .ok (.aload_n 2, 1) := by decide +kernel
theorem dJ7_copyOf_59c91_21 : decode cJ7_copyOf_59c91 21 = .ok (.iconst 0, 1) := by decide +kernel
theorem dJ7_copyOf_59c91_22 : decode cJ7_copyOf_59c91 22 = .ok (.aload_n 0, 1) := by decide +kernel
theorem dJ7_copyOf_59c91_23 : decode cJ7_copyOf_59c91 23 = .ok (.arraylength, 1) := by decide +kernel
theorem dJ7_copyOf_59c91_24 : decode cJ7_copyOf_59c91 24 = .ok (.iload_n 1, 1) := by decide +kernel
theorem dJ7_copyOf_59c91_25 : decode cJ7_copyOf_59c91 25 = .ok (.invokestatic 304, 3) := by decide +kernel
theorem dJ7_copyOf_59c91_28 : decode cJ7_copyOf_59c91 28 = .ok (.invokestatic 150, 3) := by decide +kernel
theorem dJ7_copyOf_59c91_31 : decode cJ7_copyOf_59c91 31 = .ok (.aload_n 2, 1) := by decide +kernel
theorem dJ7_copyOf_59c91_32 : decode cJ7_copyOf_59c91 32 = .ok (.areturn, 1) := by decide +kernel
theorem dJ3_checkFromToIndex_8c36e_0 : decode cJ3_checkFromToIndex_8c36e 0 = .ok (.iload_n 0, 1) := by decide +kernel
theorem dJ3_checkFromToIndex_8c36e_1 : decode cJ3_checkFromToIndex_8c36e 1 = .ok (.ifCond .lt 13, 3) := by decide +kernel
theorem dJ3_checkFromToIndex_8c36e_4 : decode cJ3_checkFromToIndex_8c36e 4 = .ok (.iload_n 0, 1) := by decide +kernel
theorem dJ3_checkFromToIndex_8c36e_5 : decode cJ3_checkFromToIndex_8c36e 5 = .ok (.iload_n 1, 1) := by decide +kernel
theorem dJ3_checkFromToIndex_8c36e_6 : decode cJ3_checkFromToIndex_8c36e 6 = .ok (.if_icmp .gt 8, 3) := by decide +kernel
theorem dJ3_checkFromToIndex_8c36e_9 : decode cJ3_checkFromToIndex_8c36e 9 = .ok (.iload_n 1, 1) := by decide +kernel
theorem dJ3_checkFromToIndex_8c36e_10 : decode cJ3_checkFromToIndex_8c36e 10 = .ok (.iload_n 2, 1) := by decide +kernel
theorem dJ3_checkFromToIndex_8c36e_11 : decode cJ3_checkFromToIndex_8c36e 11 = .ok (.if_icmp .le 11, 3) := by decide +kernel
theorem dJ3_checkFromToIndex_8c36e_14 : decode cJ3_checkFromToIndex_8c36e 14 = .ok (.aload_n 3, 1) := by decide +kernel
theorem dJ3_checkFromToIndex_8c36e_15 : decode cJ3_checkFromToIndex_8c36e 15 = .ok (.iload_n 0, 1) := by decide +kernel
theorem dJ3_checkFromToIndex_8c36e_16 : decode cJ3_checkFromToIndex_8c36e 16 = .ok (.iload_n 1, 1) := by decide +kernel
theorem dJ3_checkFromToIndex_8c36e_17 : decode cJ3_checkFromToIndex_8c36e 17 = .ok (.iload_n 2, 1) := by decide +kernel
theorem dJ3_checkFromToIndex_8c36e_18 : decode cJ3_checkFromToIndex_8c36e 18 = .ok (.invokestatic 99, 3) := by decide +kernel
theorem dJ3_checkFromToIndex_8c36e_21 : decode cJ3_checkFromToIndex_8c36e 21 = .ok (.athrow, 1) := by decide +kernel
theorem dJ3_checkFromToIndex_8c36e_22 : decode cJ3_checkFromToIndex_8c36e 22 = .ok (.iload_n 0, 1) := by decide +kernel
theorem dJ3_checkFromToIndex_8c36e_23 : decode cJ3_checkFromToIndex_8c36e 23 = .ok (.ireturn, 1) := by decide +kernel
