theorem dX8_tick_32 : decode cX8_tick 32 = .ok (.ireturn, 1) := by decide +kernel
theorem dX8_tick_33 : decode cX8_tick 33 = .ok (.iconst 0, 1) := by decide +kernel
theorem dX8_tick_34 : decode cX8_tick 34 = .ok (.istore_n 3, 1) := by decide +kernel
theorem dX8_tick_35 : decode cX8_tick 35 = .ok (.iload_n 3, 1) := by decide +kernel
theorem dX8_tick_36 : decode cX8_tick 36 = .ok (.iload_n 1, 1) := by decide +kernel
theorem dX8_tick_37 : decode cX8_tick 37 = .ok (.if_icmp .ge 130, 3) := by decide +kernel
theorem dX8_tick_40 : decode cX8_tick 40 = .ok (.aload_n 0, 1) := by decide +kernel
theorem dX8_tick_41 : decode cX8_tick 41 = .ok (.getfield 262, 3) := by decide +kernel
theorem dX8_tick_44 : decode cX8_tick 44 = .ok (.ifCond .ne 123, 3) := by decide +kernel
theorem dX8_tick_47 : decode cX8_tick 47 = .ok (.aload_n 0, 1) := by decide +kernel
theorem dX8_tick_48 : decode cX8_tick 48 = .ok (.aload_n 0, 1) := by decide +kernel
theorem dX8_tick_49 : decode cX8_tick 49 = .ok (.getfield 250, 3) := by decide +kernel
theorem dX8_tick_52 : decode cX8_tick 52 = .ok (.aload_n 0, 1) := by decide +kernel
theorem dX8_tick_53 : decode cX8_tick 53 = .ok (.getfield 247, 3) := by decide +kernel
theorem dX8_tick_56 : decode cX8_tick 56 = .ok (.aload_n 0, 1) := by decide +kernel
theorem dX8_tick_57 : decode cX8_tick 57 = .ok (.getfield 256, 3) := by decide +kernel
theorem dX8_tick_60 : decode cX8_tick 60 = .ok (.aload_n 0, 1) := by decide +kernel
theorem dX8_tick_61 : decode cX8_tick 61 = .ok (.invokevirtual 231, 3) := by decide +kernel
theorem dX8_tick_64 : decode cX8_tick 64 = .ok (.invokevirtual 234, 3) := by decide +kernel
theorem dX8_tick_67 : decode cX8_tick 67 = .ok (.aload_n 0, 1) := by decide +kernel
theorem dX8_tick_68 : decode cX8_tick 68 = .ok (.aload_n 0, 1) := by decide +kernel
theorem dX8_tick_69 : decode cX8_tick 69 = .ok (.getfield 241, 3) := by decide +kernel
theorem dX8_tick_72 : decode cX8_tick 72 = .ok (.putfield 203, 3) := by decide +kernel
theorem dX8_tick_75 : decode cX8_tick 75 = .ok (.aload_n 0, 1) := by decide +kernel
theorem dX8_tick_76 : decode cX8_tick 76 = .ok (.dup, 1) := by decide +kernel
theorem dX8_tick_77 : decode cX8_tick 77 = .ok (.getfield 265, 3) := by decide +kernel
theorem dX8_tick_80 : decode cX8_tick 80 = .ok (.aload_n 0, 1) := by decide +kernel
theorem dX8_tick_81 : decode cX8_tick 81 = .ok (.aload_n 0, 1) := by decide +kernel
theorem dX8_tick_82 : decode cX8_tick 82 = .ok (.getfield 250, 3) := by decide +kernel
theorem dX8_tick_85 : decode cX8_tick 85 = .ok (.aload_n 0, 1) := by decide +kernel
theorem dX8_tick_86 : decode cX8_tick 86 = .ok (.getfield 247, 3) := by decide +kernel
theorem dX8_tick_89 : decode cX8_tick 89 = .ok (.invokevirtual 190, 3) := by decide +kernel
theorem dX8_tick_92 : decode cX8_tick 92 = .ok (.i2l, 1) := by decide +kernel
theorem dX8_tick_93 : decode cX8_tick 93 = .ok (.ladd, 1) := by decide +kernel
theorem dX8_tick_94 : decode cX8_tick 94 = .ok (.putfield 265, 3) := by decide +kernel
theorem dX8_tick_97 : decode cX8_tick 97 = .ok (.aload_n 0, 1) := by decide +kernel
theorem dX8_tick_98 : decode cX8_tick 98 = .ok (.aload_n 0, 1) := by decide +kernel
theorem dX8_tick_99 : decode cX8_tick 99 = .ok (.iconst 1, 1) := by decide +kernel
theorem dX8_tick_100 : decode cX8_tick 100 = .ok (.invokevirtual 228, 3) := by decide +kernel
theorem dX8_tick_103 : decode cX8_tick 103 = .ok (.putfield 262, 3) := by decide +kernel
theorem dX8_tick_106 : decode cX8_tick 106 = .ok (.iconst 0, 1) := by decide +kernel
theorem dX8_tick_107 : decode cX8_tick 107 = .ok (.istore 4, 2) := by decide +kernel
theorem dX8_tick_109 : decode cX8_tick 109 = .ok (.iload 4, 2) := by decide +kernel
theorem dX8_tick_111 : decode cX8_tick 111 = .ok (.aload_n 0, 1) := by decide +kernel
theorem dX8_tick_112 : decode cX8_tick 112 = .ok (.getfield 155, 3) := by decide +kernel
theorem dX8_tick_115 : decode cX8_tick 115 = .ok (.if_icmp .ge 26, 3) := by decide +kernel
theorem dX8_tick_118 : decode cX8_tick 118 = .ok (.aload_n 0, 1) := by decide +kernel
theorem dX8_tick_119 : decode cX8_tick 119 = .ok (.getfield 50, 3) := by decide +kernel
theorem dX8_tick_122 : decode cX8_tick 122 = .ok (.iload 4, 2) := by decide +kernel
theorem dX8_tick_124 : decode cX8_tick 124 = .ok (.dup2, 1) := by decide +kernel
theorem dX8_tick_125 : decode cX8_tick 125 = .ok (.iaload, 1) := by decide +kernel
theorem dX8_tick_126 : decode cX8_tick 126 = .ok (.aload_n 0, 1) := by decide +kernel
theorem dX8_tick_127 : decode cX8_tick 127 = .ok (.getfield 65, 3) := by decide +kernel
theorem dX8_tick_130 : decode cX8_tick 130 = .ok (.iload 4, 2) := by decide +kernel
theorem dX8_tick_132 : decode cX8_tick 132 = .ok (.iaload, 1) := by decide +kernel
theorem dX8_tick_133 : decode cX8_tick 133 = .ok (.iadd, 1) := by decide +kernel
theorem dX8_tick_134 : decode cX8_tick 134 = .ok (.iastore, 1) := by decide +kernel
theorem dX8_tick_135 : decode cX8_tick 135 = .ok (.iinc 4 1, 3) := by decide +kernel
theorem dX8_tick_138 : decode cX8_tick 138 = .ok (.goto (-29), 3) := by decide +kernel
theorem dX8_tick_141 : decode cX8_tick 141 = .ok (.aload_n 0, 1) := by decide +kernel
theorem dX8_tick_142 : decode cX8_tick 142 = .ok (.aload_n 0, 1) := by decide +kernel
theorem dX8_tick_143 : decode cX8_tick 143 = .ok (.getfield 187, 3) := by decide +kernel
theorem dX8_tick_146 : decode cX8_tick 146 = .ok (.putfield 247, 3) := by decide +kernel
theorem dX8_tick_149 : decode cX8_tick 149 = .ok (.aload_n 0, 1) := by decide +kernel
theorem dX8_tick_150 : decode cX8_tick 150 = .ok (.aload_n 0, 1) := by decide +kernel
theorem dX8_tick_151 : decode cX8_tick 151 = .ok (.getfield 203, 3) := by decide +kernel
theorem dX8_tick_154 : decode cX8_tick 154 = .ok (.putfield 241, 3) := by decide +kernel
theorem dX8_tick_157 : decode cX8_tick 157 = .ok (.aload_n 0, 1) := by decide +kernel
theorem dX8_tick_158 : decode cX8_tick 158 = .ok (.invokevirtual 269, 3) := by decide +kernel
theorem dX8_tick_161 : decode cX8_tick 161 = .ok (.iinc 3 1, 3) := by decide +kernel
theorem dX8_tick_164 : decode cX8_tick 164 = .ok (.goto (-129), 3) := by decide +kernel
theorem dX8_tick_167 : decode cX8_tick 167 = .ok (.aload_n 0, 1) := by decide +kernel
theorem dX8_tick_168 : decode cX8_tick 168 = .ok (.getfield 262, 3) := by decide +kernel
theorem dX8_tick_171 : decode cX8_tick 171 = .ok (.ireturn, 1) := by decide +kernel
theorem dX8_state_0 : decode cX8_state 0 = .ok (.aload_n 0, 1) := by decide +kernel
theorem dX8_state_1 : decode cX8_state 1 = .ok (.getfield 253, 3) := by decide +kernel
theorem dX8_state_4 : decode cX8_state 4 = .ok (.ifCond .ne 10, 3) := by decide +kernel
theorem dX8_state_7 : decode cX8_state 7 = .ok (.aload_n 0, 1) := by decide +kernel
theorem dX8_state_8 : decode cX8_state 8 = .ok (.bipush (-3), 2) := by decide +kernel
theorem dX8_state_10 : decode cX8_state 10 = .ok (.invokevirtual 93, 3) := by decide +kernel
theorem dX8_state_13 : decode cX8_state 13 = .ok (.ireturn, 1) := by decide +kernel
theorem dX8_state_14 : decode cX8_state 14 = .ok (.iload_n 1, 1) := by decide +kernel
theorem dX8_state_15 : decode cX8_state 15 = .ok (.tableswitch 84 0 6 #[41, 46, 51, 64, 69, 74, 79], 41) := by decide +kernel
theorem dX8_state_56 : decode cX8_state 56 = .ok (.aload_n 0, 1) := by decide +kernel
theorem dX8_state_57 : decode cX8_state 57 = .ok (.getfield 250, 3) := by decide +kernel
theorem dX8_state_60 : decode cX8_state 60 = .ok (.ireturn, 1) := by decide +kernel
theorem dX8_state_61 : decode cX8_state 61 = .ok (.aload_n 0, 1) := by decide +kernel
theorem dX8_state_62 : decode cX8_state 62 = .ok (.getfield 247, 3) := by decide +kernel
theorem dX8_state_65 : decode cX8_state 65 = .ok (.ireturn, 1) := by decide +kernel
theorem dX8_state_66 : decode cX8_state 66 = .ok (.aload_n 0, 1) := by decide +kernel
theorem dX8_state_67 : decode cX8_state 67 = .ok (.aload_n 0, 1) := by decide +kernel
theorem dX8_state_68 : decode cX8_state 68 = .ok (.getfield 250, 3) := by decide +kernel
theorem dX8_state_71 : decode cX8_state 71 = .ok (.aload_n 0, 1) := by decide +kernel
theorem dX8_state_72 : decode cX8_state 72 = .ok (.getfield 247, 3) := by decide +kernel
theorem dX8_state_75 : decode cX8_state 75 = .ok (.invokevirtual 190, 3) := by decide +kernel
theorem dX8_state_78 : decode cX8_state 78 = .ok (.ireturn, 1) := by decide +kernel
theorem dX8_state_79 : decode cX8_state 79 = .ok (.aload_n 0, 1) := by decide +kernel
theorem dX8_state_80 : decode cX8_state 80 = .ok (.getfield 241, 3) := by decide +kernel
theorem dX8_state_83 : decode cX8_state 83 = .ok (.ireturn, 1) := by decide +kernel
theorem dX8_state_84 : decode cX8_state 84 = .ok (.aload_n 0, 1) := by decide +kernel
theorem dX8_state_85 : decode cX8_state 85 = .ok (.getfield 262, 3) := by decide +kernel
theorem dX8_state_88 : decode cX8_state 88 = .ok (.ireturn, 1) := by decide +kernel
theorem dX8_state_89 : decode cX8_state 89 = .ok (.aload_n 0, 1) := by decide +kernel
theorem dX8_state_90 : decode cX8_state 90 = .ok (.getfield 256, 3) := by decide +kernel
theorem dX8_state_93 : decode cX8_state 93 = .ok (.ireturn, 1) := by decide +kernel
theorem dX8_state_94 : decode cX8_state 94 = .ok (.aload_n 0, 1) := by decide +kernel
theorem dX8_state_95 : decode cX8_state 95 = .ok (.getfield 244, 3) := by decide +kernel
theorem dX8_state_98 : decode cX8_state 98 = .ok (.ireturn, 1) := by decide +kernel
theorem dX8_state_99 : decode cX8_state 99 = .ok (.aload_n 0, 1) := by decide +kernel
theorem dX8_state_100 : decode cX8_state 100 = .ok (.bipush (-2), 2) := by decide +kernel
theorem dX8_state_102 : decode cX8_state 102 = .ok (.invokevirtual 93, 3) := by decide +kernel
theorem dX8_state_105 : decode cX8_state 105 = .ok (.ireturn, 1) := by decide +kernel
theorem dX8_rolled_0 : decode cX8_rolled 0 = .ok (.aload_n 0, 1) := by decide +kernel
theorem dX8_rolled_1 : decode cX8_rolled 1 = .ok (.getfield 253, 3) := by decide +kernel
theorem dX8_rolled_4 : decode cX8_rolled 4 = .ok (.ifCond .ne 13, 3) := by decide +kernel
theorem dX8_rolled_7 : decode cX8_rolled 7 = .ok (.aload_n 0, 1) := by decide +kernel
theorem dX8_rolled_8 : decode cX8_rolled 8 = .ok (.bipush (-3), 2) := by decide +kernel
theorem dX8_rolled_10 : decode cX8_rolled 10 = .ok (.invokevirtual 93, 3) := by decide +kernel
theorem dX8_rolled_13 : decode cX8_rolled 13 = .ok (.i2l, 1) := by decide +kernel
theorem dX8_rolled_14 : decode cX8_rolled 14 = .ok (.goto 7, 3) := by decide +kernel
theorem dX8_rolled_17 : decode cX8_rolled 17 = .ok (.aload_n 0, 1) := by decide +kernel
theorem dX8_rolled_18 : decode cX8_rolled 18 = .ok (.getfield 265, 3) := by decide +kernel
theorem dX8_rolled_21 : decode cX8_rolled 21 = .ok (.lreturn, 1) := by decide +kernel
theorem dX8_tenth_0 : decode cX8_tenth 0 = .ok (.iload_n 2, 1) := by decide +kernel
theorem dX8_tenth_1 : decode cX8_tenth 1 = .ok (.iconst 0, 1) := by decide +kernel
theorem dX8_tenth_2 : decode cX8_tenth 2 = .ok (.iconst 1, 1) := by decide +kernel
theorem dX8_tenth_3 : decode cX8_tenth 3 = .ok (.invokestatic 106, 3) := by decide +kernel
theorem dX8_tenth_6 : decode cX8_tenth 6 = .ok (.ifCond .ne 10, 3) := by decide +kernel
theorem dX8_tenth_9 : decode cX8_tenth 9 = .ok (.aload_n 0, 1) := by decide +kernel
theorem dX8_tenth_10 : decode cX8_tenth 10 = .ok (.bipush (-2), 2) := by decide +kernel
theorem dX8_tenth_12 : decode cX8_tenth 12 = .ok (.invokevirtual 93, 3) := by decide +kernel
theorem dX8_tenth_15 : decode cX8_tenth 15 = .ok (.ireturn, 1) := by decide +kernel
theorem dX8_tenth_16 : decode cX8_tenth 16 = .ok (.aload_n 0, 1) := by decide +kernel
theorem dX8_tenth_17 : decode cX8_tenth 17 = .ok (.getfield 253, 3) := by decide +kernel
theorem dX8_tenth_20 : decode cX8_tenth 20 = .ok (.ifCond .ne 10, 3) := by decide +kernel
theorem dX8_tenth_23 : decode cX8_tenth 23 = .ok (.aload_n 0, 1) := by decide +kernel
theorem dX8_tenth_24 : decode cX8_tenth 24 = .ok (.bipush (-3), 2) := by decide +kernel
theorem dX8_tenth_26 : decode cX8_tenth 26 = .ok (.invokevirtual 93, 3) := by decide +kernel
theorem dX8_tenth_29 : decode cX8_tenth 29 = .ok (.ireturn, 1) := by decide +kernel
theorem dX8_tenth_30 : decode cX8_tenth 30 = .ok (.iload_n 1, 1) := by decide +kernel
theorem dX8_tenth_31 : decode cX8_tenth 31 = .ok (.ifCond .ge 10, 3) := by decide +kernel
theorem dX8_tenth_34 : decode cX8_tenth 34 = .ok (.aload_n 0, 1) := by decide +kernel
theorem dX8_tenth_35 : decode cX8_tenth 35 = .ok (.bipush (-4), 2) := by decide +kernel
theorem dX8_tenth_37 : decode cX8_tenth 37 = .ok (.invokevirtual 93, 3) := by decide +kernel
theorem dX8_tenth_40 : decode cX8_tenth 40 = .ok (.ireturn, 1) := by decide +kernel
theorem dX8_tenth_41 : decode cX8_tenth 41 = .ok (.iload_n 1, 1) := by decide +kernel
theorem dX8_tenth_42 : decode cX8_tenth 42 = .ok (.aload_n 0, 1) := by decide +kernel
theorem dX8_tenth_43 : decode cX8_tenth 43 = .ok (.getfield 244, 3) := by decide +kernel
theorem dX8_tenth_46 : decode cX8_tenth 46 = .ok (.if_icmp .lt 8, 3) := by decide +kernel
theorem dX8_tenth_49 : decode cX8_tenth 49 = .ok (.bipush (-9), 2) := by decide +kernel
theorem dX8_tenth_51 : decode cX8_tenth 51 = .ok (.goto 22, 3) := by decide +kernel
theorem dX8_tenth_54 : decode cX8_tenth 54 = .ok (.iload_n 2, 1) := by decide +kernel
theorem dX8_tenth_55 : decode cX8_tenth 55 = .ok (.ifCond .ne 12, 3) := by decide +kernel
theorem dX8_tenth_58 : decode cX8_tenth 58 = .ok (.aload_n 0, 1) := by decide +kernel
theorem dX8_tenth_59 : decode cX8_tenth 59 = .ok (.getfield 68, 3) := by decide +kernel
theorem dX8_tenth_62 : decode cX8_tenth 62 = .ok (.iload_n 1, 1) := by decide +kernel
theorem dX8_tenth_63 : decode cX8_tenth 63 = .ok (.iaload, 1) := by decide +kernel
theorem dX8_tenth_64 : decode cX8_tenth 64 = .ok (.goto 9, 3) := by decide +kernel
theorem dX8_tenth_67 : decode cX8_tenth 67 = .ok (.aload_n 0, 1) := by decide +kernel
theorem dX8_tenth_68 : decode cX8_tenth 68 = .ok (.getfield 71, 3) := by decide +kernel
theorem dX8_tenth_71 : decode cX8_tenth 71 = .ok (.iload_n 1, 1) := by decide +kernel
theorem dX8_tenth_72 : decode cX8_tenth 72 = .ok (.iaload, 1) := by decide +kernel
theorem dX8_tenth_73 : decode cX8_tenth 73 = .ok (.ireturn, 1) := by decide +kernel
theorem dX8_lasts_0 : decode cX8_lasts 0 = .ok (.aload_n 0, 1) := by decide +kernel
theorem dX8_lasts_1 : decode cX8_lasts 1 = .ok (.iload_n 1, 1) := by decide +kernel
theorem dX8_lasts_2 : decode cX8_lasts 2 = .ok (.invokevirtual 129, 3) := by decide +kernel
theorem dX8_lasts_5 : decode cX8_lasts 5 = .ok (.ifCond .eq 10, 3) := by decide +kernel
theorem dX8_lasts_8 : decode cX8_lasts 8 = .ok (.iload_n 3, 1) := by decide +kernel
theorem dX8_lasts_9 : decode cX8_lasts 9 = .ok (.invokestatic 174, 3) := by decide +kernel
theorem dX8_lasts_12 : decode cX8_lasts 12 = .ok (.ifCond .ne 9, 3) := by decide +kernel
theorem dX8_lasts_15 : decode cX8_lasts 15 = .ok (.aload_n 0, 1) := by decide +kernel
theorem dX8_lasts_16 : decode cX8_lasts 16 = .ok (.iconst (-1), 1) := by decide +kernel
theorem dX8_lasts_17 : decode cX8_lasts 17 = .ok (.invokevirtual 93, 3) := by decide +kernel
theorem dX8_lasts_20 : decode cX8_lasts 20 = .ok (.ireturn, 1) := by decide +kernel
theorem dX8_lasts_21 : decode cX8_lasts 21 = .ok (.iload 4, 2) := by decide +kernel
theorem dX8_lasts_23 : decode cX8_lasts 23 = .ok (.iconst 0, 1) := by decide +kernel
theorem dX8_lasts_24 : decode cX8_lasts 24 = .ok (.iconst 1, 1) := by decide +kernel
theorem dX8_lasts_25 : decode cX8_lasts 25 = .ok (.invokestatic 106, 3) := by decide +kernel
theorem dX8_lasts_28 : decode cX8_lasts 28 = .ok (.ifCond .ne 10, 3) := by decide +kernel
theorem dX8_lasts_31 : decode cX8_lasts 31 = .ok (.aload_n 0, 1) := by decide +kernel
theorem dX8_lasts_32 : decode cX8_lasts 32 = .ok (.bipush (-2), 2) := by decide +kernel
theorem dX8_lasts_34 : decode cX8_lasts 34 = .ok (.invokevirtual 93, 3) := by decide +kernel
theorem dX8_lasts_37 : decode cX8_lasts 37 = .ok (.ireturn, 1) := by decide +kernel
theorem dX8_lasts_38 : decode cX8_lasts 38 = .ok (.iload_n 2, 1) := by decide +kernel
theorem dX8_lasts_39 : decode cX8_lasts 39 = .ok (.iconst 0, 1) := by decide +kernel
theorem dX8_lasts_40 : decode cX8_lasts 40 = .ok (.sipush 9000, 3) := by decide +kernel
theorem dX8_lasts_43 : decode cX8_lasts 43 = .ok (.invokestatic 86, 3) := by decide +kernel
theorem dX8_lasts_46 : decode cX8_lasts 46 = .ok (.istore 5, 2) := by decide +kernel
theorem dX8_lasts_48 : decode cX8_lasts 48 = .ok (.iload 5, 2) := by decide +kernel
theorem dX8_lasts_50 : decode cX8_lasts 50 = .ok (.ifCond .eq 10, 3) := by decide +kernel
theorem dX8_lasts_53 : decode cX8_lasts 53 = .ok (.aload_n 0, 1) := by decide +kernel
theorem dX8_lasts_54 : decode cX8_lasts 54 = .ok (.iload 5, 2) := by decide +kernel
theorem dX8_lasts_56 : decode cX8_lasts 56 = .ok (.invokevirtual 93, 3) := by decide +kernel
theorem dX8_lasts_59 : decode cX8_lasts 59 = .ok (.ireturn, 1) := by decide +kernel
theorem dX8_lasts_60 : decode cX8_lasts 60 = .ok (.aload_n 0, 1) := by decide +kernel
theorem dX8_lasts_61 : decode cX8_lasts 61 = .ok (.iload_n 1, 1) := by decide +kernel
theorem dX8_lasts_62 : decode cX8_lasts 62 = .ok (.iload_n 2, 1) := by decide +kernel
theorem dX8_lasts_63 : decode cX8_lasts 63 = .ok (.iload_n 3, 1) := by decide +kernel
theorem dX8_lasts_64 : decode cX8_lasts 64 = .ok (.invokevirtual 272, 3) := by decide +kernel
theorem dX8_lasts_67 : decode cX8_lasts 67 = .ok (.istore 6, 2) := by decide +kernel
theorem dX8_lasts_69 : decode cX8_lasts 69 = .ok (.iload 4, 2) := by decide +kernel
theorem dX8_lasts_71 : decode cX8_lasts 71 = .ok (.ifCond .ne 8, 3) := by decide +kernel
theorem dX8_lasts_74 : decode cX8_lasts 74 = .ok (.iload 6, 2) := by decide +kernel
theorem dX8_lasts_76 : decode cX8_lasts 76 = .ok (.goto 7, 3) := by decide +kernel
theorem dX8_lasts_79 : decode cX8_lasts 79 = .ok (.aload_n 0, 1) := by decide +kernel
theorem dX8_lasts_80 : decode cX8_lasts 80 = .ok (.getfield 225, 3) := by decide +kernel
theorem dX8_lasts_83 : decode cX8_lasts 83 = .ok (.ireturn, 1) := by decide +kernel
theorem dX8_ruler_0 : decode cX8_ruler 0 = .ok (.bipush (-9), 2) := by decide +kernel
theorem dX8_ruler_2 : decode cX8_ruler 2 = .ok (.istore_n 1, 1) := by decide +kernel
theorem dX8_ruler_3 : decode cX8_ruler 3 = .ok (.iconst 0, 1) := by decide +kernel
theorem dX8_ruler_4 : decode cX8_ruler 4 = .ok (.istore_n 2, 1) := by decide +kernel
theorem dX8_ruler_5 : decode cX8_ruler 5 = .ok (.iconst 0, 1) := by decide +kernel
theorem dX8_ruler_6 : decode cX8_ruler 6 = .ok (.istore_n 3, 1) := by decide +kernel
theorem dX8_ruler_7 : decode cX8_ruler 7 = .ok (.iload_n 3, 1) := by decide +kernel
theorem dX8_ruler_8 : decode cX8_ruler 8 = .ok (.aload_n 0, 1) := by decide +kernel
theorem dX8_ruler_9 : decode cX8_ruler 9 = .ok (.getfield 155, 3) := by decide +kernel
theorem dX8_ruler_12 : decode cX8_ruler 12 = .ok (.if_icmp .ge 48, 3) := by decide +kernel
theorem dX8_ruler_15 : decode cX8_ruler 15 = .ok (.aload_n 0, 1) := by decide +kernel
theorem dX8_ruler_16 : decode cX8_ruler 16 = .ok (.iload_n 3, 1) := by decide +kernel
theorem dX8_ruler_17 : decode cX8_ruler 17 = .ok (.aload_n 0, 1) := by decide +kernel
theorem dX8_ruler_18 : decode cX8_ruler 18 = .ok (.getfield 41, 3) := by decide +kernel
theorem dX8_ruler_21 : decode cX8_ruler 21 = .ok (.iload_n 3, 1) := by decide +kernel
theorem dX8_ruler_22 : decode cX8_ruler 22 = .ok (.iaload, 1) := by decide +kernel
theorem dX8_ruler_23 : decode cX8_ruler 23 = .ok (.aload_n 0, 1) := by decide +kernel
theorem dX8_ruler_24 : decode cX8_ruler 24 = .ok (.getfield 44, 3) := by decide +kernel
theorem dX8_ruler_27 : decode cX8_ruler 27 = .ok (.iload_n 3, 1) := by decide +kernel
theorem dX8_ruler_28 : decode cX8_ruler 28 = .ok (.iaload, 1) := by decide +kernel
theorem dX8_ruler_29 : decode cX8_ruler 29 = .ok (.aload_n 0, 1) := by decide +kernel
theorem dX8_ruler_30 : decode cX8_ruler 30 = .ok (.getfield 47, 3) := by decide +kernel
theorem dX8_ruler_33 : decode cX8_ruler 33 = .ok (.iload_n 3, 1) := by decide +kernel
theorem dX8_ruler_34 : decode cX8_ruler 34 = .ok (.iaload, 1) := by decide +kernel
theorem dX8_ruler_35 : decode cX8_ruler 35 = .ok (.invokevirtual 219, 3) := by decide +kernel
theorem dX8_ruler_38 : decode cX8_ruler 38 = .ok (.istore 4, 2) := by decide +kernel
theorem dX8_ruler_40 : decode cX8_ruler 40 = .ok (.iload 4, 2) := by decide +kernel
theorem dX8_ruler_42 : decode cX8_ruler 42 = .ok (.iload_n 2, 1) := by decide +kernel
theorem dX8_ruler_43 : decode cX8_ruler 43 = .ok (.if_icmp .gt 6, 3) := by decide +kernel
theorem dX8_ruler_46 : decode cX8_ruler 46 = .ok (.goto 8, 3) := by decide +kernel
theorem dX8_ruler_49 : decode cX8_ruler 49 = .ok (.iload 4, 2) := by decide +kernel
theorem dX8_ruler_51 : decode cX8_ruler 51 = .ok (.istore_n 2, 1) := by decide +kernel
theorem dX8_ruler_52 : decode cX8_ruler 52 = .ok (.iload_n 3, 1) := by decide +kernel
theorem dX8_ruler_53 : decode cX8_ruler 53 = .ok (.istore_n 1, 1) := by decide +kernel
theorem dX8_ruler_54 : decode cX8_ruler 54 = .ok (.iinc 3 1, 3) := by decide +kernel
theorem dX8_ruler_57 : decode cX8_ruler 57 = .ok (.goto (-50), 3) := by decide +kernel
theorem dX8_ruler_60 : decode cX8_ruler 60 = .ok (.iload_n 1, 1) := by decide +kernel
theorem dX8_ruler_61 : decode cX8_ruler 61 = .ok (.ireturn, 1) := by decide +kernel
theorem dX8_beginsSpin_0 : decode cX8_beginsSpin 0 = .ok (.aload_n 0, 1) := by decide +kernel
theorem dX8_beginsSpin_1 : decode cX8_beginsSpin 1 = .ok (.aload_n 0, 1) := by decide +kernel
theorem dX8_beginsSpin_2 : decode cX8_beginsSpin 2 = .ok (.getfield 250, 3) := by decide +kernel
theorem dX8_beginsSpin_5 : decode cX8_beginsSpin 5 = .ok (.aload_n 0, 1) := by decide +kernel
theorem dX8_beginsSpin_6 : decode cX8_beginsSpin 6 = .ok (.getfield 259, 3) := by decide +kernel
theorem dX8_beginsSpin_9 : decode cX8_beginsSpin 9 = .ok (.aload_n 0, 1) := by decide +kernel
theorem dX8_beginsSpin_10 : decode cX8_beginsSpin 10 = .ok (.getfield 256, 3) := by decide +kernel
theorem dX8_beginsSpin_13 : decode cX8_beginsSpin 13 = .ok (.aload_n 0, 1) := by decide +kernel
theorem dX8_beginsSpin_14 : decode cX8_beginsSpin 14 = .ok (.invokevirtual 231, 3) := by decide +kernel
theorem dX8_beginsSpin_17 : decode cX8_beginsSpin 17 = .ok (.invokevirtual 234, 3) := by decide +kernel
theorem dX8_beginsSpin_20 : decode cX8_beginsSpin 20 = .ok (.return_, 1) := by decide +kernel
theorem dX8_rules_0 : decode cX8_rules 0 = .ok (.aload_n 0, 1) := by decide +kernel
theorem dX8_rules_1 : decode cX8_rules 1 = .ok (.getfield 253, 3) := by decide +kernel
theorem dX8_rules_4 : decode cX8_rules 4 = .ok (.ifCond .ne 10, 3) := by decide +kernel
theorem dX8_rules_7 : decode cX8_rules 7 = .ok (.aload_n 0, 1) := by decide +kernel
theorem dX8_rules_8 : decode cX8_rules 8 = .ok (.bipush (-3), 2) := by decide +kernel
theorem dX8_rules_10 : decode cX8_rules 10 = .ok (.invokevirtual 93, 3) := by decide +kernel
theorem dX8_rules_13 : decode cX8_rules 13 = .ok (.ireturn, 1) := by decide +kernel
theorem dX8_rules_14 : decode cX8_rules 14 = .ok (.iload_n 1, 1) := by decide +kernel
theorem dX8_rules_15 : decode cX8_rules 15 = .ok (.iconst 0, 1) := by decide +kernel
theorem dX8_rules_16 : decode cX8_rules 16 = .ok (.sipush 9999, 3) := by decide +kernel
theorem dX8_rules_19 : decode cX8_rules 19 = .ok (.invokestatic 86, 3) := by decide +kernel
theorem dX8_rules_22 : decode cX8_rules 22 = .ok (.istore_n 2, 1) := by decide +kernel
theorem dX8_rules_23 : decode cX8_rules 23 = .ok (.iload_n 2, 1) := by decide +kernel
theorem dX8_rules_24 : decode cX8_rules 24 = .ok (.ifCond .eq 9, 3) := by decide +kernel
theorem dX8_rules_27 : decode cX8_rules 27 = .ok (.aload_n 0, 1) := by decide +kernel
theorem dX8_rules_28 : decode cX8_rules 28 = .ok (.iload_n 2, 1) := by decide +kernel
theorem dX8_rules_29 : decode cX8_rules 29 = .ok (.invokevirtual 93, 3) := by decide +kernel
theorem dX8_rules_32 : decode cX8_rules 32 = .ok (.ireturn, 1) := by decide +kernel
theorem dX8_rules_33 : decode cX8_rules 33 = .ok (.aload_n 0, 1) := by decide +kernel
theorem dX8_rules_34 : decode cX8_rules 34 = .ok (.invokevirtual 275, 3) := by decide +kernel
theorem dX8_rules_37 : decode cX8_rules 37 = .ok (.iconst 0, 1) := by decide +kernel
theorem dX8_rules_38 : decode cX8_rules 38 = .ok (.istore_n 3, 1) := by decide +kernel
theorem dX8_rules_39 : decode cX8_rules 39 = .ok (.iload_n 3, 1) := by decide +kernel
theorem dX8_rules_40 : decode cX8_rules 40 = .ok (.iload_n 1, 1) := by decide +kernel
theorem dX8_rules_41 : decode cX8_rules 41 = .ok (.if_icmp .ge 20, 3) := by decide +kernel
theorem dX8_rules_44 : decode cX8_rules 44 = .ok (.aload_n 0, 1) := by decide +kernel
theorem dX8_rules_45 : decode cX8_rules 45 = .ok (.iconst 1, 1) := by decide +kernel
theorem dX8_rules_46 : decode cX8_rules 46 = .ok (.invokevirtual 228, 3) := by decide +kernel
theorem dX8_rules_49 : decode cX8_rules 49 = .ok (.ifCond .eq 6, 3) := by decide +kernel
theorem dX8_rules_52 : decode cX8_rules 52 = .ok (.bipush (-9), 2) := by decide +kernel
theorem dX8_rules_54 : decode cX8_rules 54 = .ok (.ireturn, 1) := by decide +kernel
theorem dX8_rules_55 : decode cX8_rules 55 = .ok (.iinc 3 1, 3) := by decide +kernel
theorem dX8_rules_58 : decode cX8_rules 58 = .ok (.goto (-19), 3) := by decide +kernel
theorem dX8_rules_61 : decode cX8_rules 61 = .ok (.aload_n 0, 1) := by decide +kernel
theorem dX8_rules_62 : decode cX8_rules 62 = .ok (.invokevirtual 278, 3) := by decide +kernel
theorem dX8_rules_65 : decode cX8_rules 65 = .ok (.ireturn, 1) := by decide +kernel
theorem dX8_passes_0 : decode cX8_passes 0 = .ok (.aload_n 0, 1) := by decide +kernel
theorem dX8_passes_1 : decode cX8_passes 1 = .ok (.getfield 253, 3) := by decide +kernel
theorem dX8_passes_4 : decode cX8_passes 4 = .ok (.ifCond .ne 10, 3) := by decide +kernel
theorem dX8_passes_7 : decode cX8_passes 7 = .ok (.aload_n 0, 1) := by decide +kernel
theorem dX8_passes_8 : decode cX8_passes 8 = .ok (.bipush (-3), 2) := by decide +kernel
theorem dX8_passes_10 : decode cX8_passes 10 = .ok (.invokevirtual 93, 3) := by decide +kernel
theorem dX8_passes_13 : decode cX8_passes 13 = .ok (.ireturn, 1) := by decide +kernel
theorem dX8_passes_14 : decode cX8_passes 14 = .ok (.aload_n 0, 1) := by decide +kernel
theorem dX8_passes_15 : decode cX8_passes 15 = .ok (.invokevirtual 275, 3) := by decide +kernel
theorem dX8_passes_18 : decode cX8_passes 18 = .ok (.aload_n 0, 1) := by decide +kernel
theorem dX8_passes_19 : decode cX8_passes 19 = .ok (.invokevirtual 278, 3) := by decide +kernel
theorem dX8_passes_22 : decode cX8_passes 22 = .ok (.istore_n 1, 1) := by decide +kernel
theorem dX8_passes_23 : decode cX8_passes 23 = .ok (.aload_n 0, 1) := by decide +kernel
theorem dX8_passes_24 : decode cX8_passes 24 = .ok (.iconst 1, 1) := by decide +kernel
theorem dX8_passes_25 : decode cX8_passes 25 = .ok (.invokevirtual 228, 3) := by decide +kernel
theorem dX8_passes_28 : decode cX8_passes 28 = .ok (.ifCond .ne 25, 3) := by decide +kernel
theorem dX8_passes_31 : decode cX8_passes 31 = .ok (.aload_n 0, 1) := by decide +kernel
theorem dX8_passes_32 : decode cX8_passes 32 = .ok (.invokevirtual 278, 3) := by decide +kernel
theorem dX8_passes_35 : decode cX8_passes 35 = .ok (.istore_n 2, 1) := by decide +kernel
theorem dX8_passes_36 : decode cX8_passes 36 = .ok (.iload_n 2, 1) := by decide +kernel
theorem dX8_passes_37 : decode cX8_passes 37 = .ok (.ifCond .lt 13, 3) := by decide +kernel
theorem dX8_passes_40 : decode cX8_passes 40 = .ok (.iload_n 2, 1) := by decide +kernel
theorem dX8_passes_41 : decode cX8_passes 41 = .ok (.iload_n 1, 1) := by decide +kernel
theorem dX8_passes_42 : decode cX8_passes 42 = .ok (.if_icmp .eq 8, 3) := by decide +kernel
theorem dX8_passes_45 : decode cX8_passes 45 = .ok (.aload_n 0, 1) := by decide +kernel
theorem dX8_passes_46 : decode cX8_passes 46 = .ok (.getfield 203, 3) := by decide +kernel
theorem dX8_passes_49 : decode cX8_passes 49 = .ok (.ireturn, 1) := by decide +kernel
theorem dX8_passes_50 : decode cX8_passes 50 = .ok (.goto (-27), 3) := by decide +kernel
theorem dX8_passes_53 : decode cX8_passes 53 = .ok (.bipush (-9), 2) := by decide +kernel
theorem dX8_passes_55 : decode cX8_passes 55 = .ok (.ireturn, 1) := by decide +kernel
theorem dX8_heard_0 : decode cX8_heard 0 = .ok (.iload_n 1, 1) := by decide +kernel
theorem dX8_heard_1 : decode cX8_heard 1 = .ok (.iconst (-1), 1) := by decide +kernel
theorem dX8_heard_2 : decode cX8_heard 2 = .ok (.ldc_w 281, 3) := by decide +kernel
theorem dX8_heard_5 : decode cX8_heard 5 = .ok (.invokestatic 86, 3) := by decide +kernel
theorem dX8_heard_8 : decode cX8_heard 8 = .ok (.istore_n 2, 1) := by decide +kernel
theorem dX8_heard_9 : decode cX8_heard 9 = .ok (.iload_n 2, 1) := by decide +kernel
theorem dX8_heard_10 : decode cX8_heard 10 = .ok (.ifCond .ne 15, 3) := by decide +kernel
theorem dX8_heard_13 : decode cX8_heard 13 = .ok (.aload_n 0, 1) := by decide +kernel
theorem dX8_heard_14 : decode cX8_heard 14 = .ok (.getfield 282, 3) := by decide +kernel
theorem dX8_heard_17 : decode cX8_heard 17 = .ok (.bipush 24, 2) := by decide +kernel
theorem dX8_heard_19 : decode cX8_heard 19 = .ok (.if_icmp .ne 6, 3) := by decide +kernel
theorem dX8_heard_22 : decode cX8_heard 22 = .ok (.bipush (-6), 2) := by decide +kernel
theorem dX8_heard_24 : decode cX8_heard 24 = .ok (.istore_n 2, 1) := by decide +kernel
theorem dX8_heard_25 : decode cX8_heard 25 = .ok (.iload_n 2, 1) := by decide +kernel
theorem dX8_heard_26 : decode cX8_heard 26 = .ok (.ifCond .eq 9, 3) := by decide +kernel
theorem dX8_heard_29 : decode cX8_heard 29 = .ok (.aload_n 0, 1) := by decide +kernel
theorem dX8_heard_30 : decode cX8_heard 30 = .ok (.iload_n 2, 1) := by decide +kernel
theorem dX8_heard_31 : decode cX8_heard 31 = .ok (.invokevirtual 93, 3) := by decide +kernel
theorem dX8_heard_34 : decode cX8_heard 34 = .ok (.ireturn, 1) := by decide +kernel
theorem dX8_heard_35 : decode cX8_heard 35 = .ok (.aload_n 0, 1) := by decide +kernel
theorem dX8_heard_36 : decode cX8_heard 36 = .ok (.getfield 74, 3) := by decide +kernel
theorem dX8_heard_39 : decode cX8_heard 39 = .ok (.aload_n 0, 1) := by decide +kernel
theorem dX8_heard_40 : decode cX8_heard 40 = .ok (.getfield 282, 3) := by decide +kernel
theorem dX8_heard_43 : decode cX8_heard 43 = .ok (.iload_n 1, 1) := by decide +kernel
theorem dX8_heard_44 : decode cX8_heard 44 = .ok (.iastore, 1) := by decide +kernel
theorem dX8_heard_45 : decode cX8_heard 45 = .ok (.aload_n 0, 1) := by decide +kernel
theorem dX8_heard_46 : decode cX8_heard 46 = .ok (.dup, 1) := by decide +kernel
theorem dX8_heard_47 : decode cX8_heard 47 = .ok (.getfield 282, 3) := by decide +kernel
theorem dX8_heard_50 : decode cX8_heard 50 = .ok (.iconst 1, 1) := by decide +kernel
theorem dX8_heard_51 : decode cX8_heard 51 = .ok (.iadd, 1) := by decide +kernel
theorem dX8_heard_52 : decode cX8_heard 52 = .ok (.putfield 282, 3) := by decide +kernel
theorem dX8_heard_55 : decode cX8_heard 55 = .ok (.aload_n 0, 1) := by decide +kernel
theorem dX8_heard_56 : decode cX8_heard 56 = .ok (.getfield 282, 3) := by decide +kernel
theorem dX8_heard_59 : decode cX8_heard 59 = .ok (.ireturn, 1) := by decide +kernel
theorem dX8_hush_0 : decode cX8_hush 0 = .ok (.aload_n 0, 1) := by decide +kernel
theorem dX8_hush_1 : decode cX8_hush 1 = .ok (.getfield 282, 3) := by decide +kernel
theorem dX8_hush_4 : decode cX8_hush 4 = .ok (.istore_n 1, 1) := by decide +kernel
theorem dX8_hush_5 : decode cX8_hush 5 = .ok (.aload_n 0, 1) := by decide +kernel
theorem dX8_hush_6 : decode cX8_hush 6 = .ok (.iconst 0, 1) := by decide +kernel
theorem dX8_hush_7 : decode cX8_hush 7 = .ok (.putfield 282, 3) := by decide +kernel
theorem dX8_hush_10 : decode cX8_hush 10 = .ok (.iload_n 1, 1) := by decide +kernel
theorem dX8_hush_11 : decode cX8_hush 11 = .ok (.ireturn, 1) := by decide +kernel
theorem dX8_slip_0 : decode cX8_slip 0 = .ok (.iload_n 1, 1) := by decide +kernel
theorem dX8_slip_1 : decode cX8_slip 1 = .ok (.iconst 0, 1) := by decide +kernel
theorem dX8_slip_2 : decode cX8_slip 2 = .ok (.sipush 999, 3) := by decide +kernel
theorem dX8_slip_5 : decode cX8_slip 5 = .ok (.invokestatic 86, 3) := by decide +kernel
theorem dX8_slip_8 : decode cX8_slip 8 = .ok (.istore_n 2, 1) := by decide +kernel
theorem dX8_slip_9 : decode cX8_slip 9 = .ok (.iload_n 2, 1) := by decide +kernel
theorem dX8_slip_10 : decode cX8_slip 10 = .ok (.ifCond .eq 9, 3) := by decide +kernel
theorem dX8_slip_13 : decode cX8_slip 13 = .ok (.aload_n 0, 1) := by decide +kernel
theorem dX8_slip_14 : decode cX8_slip 14 = .ok (.iload_n 2, 1) := by decide +kernel
theorem dX8_slip_15 : decode cX8_slip 15 = .ok (.invokevirtual 93, 3) := by decide +kernel
theorem dX8_slip_18 : decode cX8_slip 18 = .ok (.ireturn, 1) := by decide +kernel
theorem dX8_slip_19 : decode cX8_slip 19 = .ok (.aload_n 0, 1) := by decide +kernel
theorem dX8_slip_20 : decode cX8_slip 20 = .ok (.getfield 285, 3) := by decide +kernel
theorem dX8_slip_23 : decode cX8_slip 23 = .ok (.istore_n 3, 1) := by decide +kernel
theorem dX8_slip_24 : decode cX8_slip 24 = .ok (.aload_n 0, 1) := by decide +kernel
theorem dX8_slip_25 : decode cX8_slip 25 = .ok (.iload_n 1, 1) := by decide +kernel
theorem dX8_slip_26 : decode cX8_slip 26 = .ok (.putfield 285, 3) := by decide +kernel
theorem dX8_slip_29 : decode cX8_slip 29 = .ok (.iload_n 3, 1) := by decide +kernel
theorem dX8_slip_30 : decode cX8_slip 30 = .ok (.ireturn, 1) := by decide +kernel
theorem dX8_offs_0 : decode cX8_offs 0 = .ok (.iconst 0, 1) := by decide +kernel
theorem dX8_offs_1 : decode cX8_offs 1 = .ok (.istore_n 2, 1) := by decide +kernel
theorem dX8_offs_2 : decode cX8_offs 2 = .ok (.aload_n 0, 1) := by decide +kernel
theorem dX8_offs_3 : decode cX8_offs 3 = .ok (.iconst 0, 1) := by decide +kernel
theorem dX8_offs_4 : decode cX8_offs 4 = .ok (.putfield 225, 3) := by decide +kernel
theorem dX8_offs_7 : decode cX8_offs 7 = .ok (.iconst 0, 1) := by decide +kernel
theorem dX8_offs_8 : decode cX8_offs 8 = .ok (.istore_n 3, 1) := by decide +kernel
theorem dX8_offs_9 : decode cX8_offs 9 = .ok (.iload_n 3, 1) := by decide +kernel
theorem dX8_offs_10 : decode cX8_offs 10 = .ok (.aload_n 0, 1) := by decide +kernel
theorem dX8_offs_11 : decode cX8_offs 11 = .ok (.getfield 282, 3) := by decide +kernel
theorem dX8_offs_14 : decode cX8_offs 14 = .ok (.if_icmp .ge 147, 3) := by decide +kernel
theorem dX8_offs_17 : decode cX8_offs 17 = .ok (.aload_n 0, 1) := by decide +kernel
theorem dX8_offs_18 : decode cX8_offs 18 = .ok (.getfield 203, 3) := by decide +kernel
theorem dX8_offs_21 : decode cX8_offs 21 = .ok (.bipush 10, 2) := by decide +kernel
theorem dX8_offs_23 : decode cX8_offs 23 = .ok (.iload_n 3, 1) := by decide +kernel
theorem dX8_offs_24 : decode cX8_offs 24 = .ok (.imul, 1) := by decide +kernel
theorem dX8_offs_25 : decode cX8_offs 25 = .ok (.if_icmp .ge 22, 3) := by decide +kernel
theorem dX8_offs_28 : decode cX8_offs 28 = .ok (.aload_n 0, 1) := by decide +kernel
theorem dX8_offs_29 : decode cX8_offs 29 = .ok (.getfield 225, 3) := by decide +kernel
theorem dX8_offs_32 : decode cX8_offs 32 = .ok (.ifCond .ne 15, 3) := by decide +kernel
theorem dX8_offs_35 : decode cX8_offs 35 = .ok (.aload_n 0, 1) := by decide +kernel
theorem dX8_offs_36 : decode cX8_offs 36 = .ok (.aload_n 0, 1) := by decide +kernel
theorem dX8_offs_37 : decode cX8_offs 37 = .ok (.iconst 1, 1) := by decide +kernel
theorem dX8_offs_38 : decode cX8_offs 38 = .ok (.invokevirtual 228, 3) := by decide +kernel
theorem dX8_offs_41 : decode cX8_offs 41 = .ok (.putfield 225, 3) := by decide +kernel
theorem dX8_offs_44 : decode cX8_offs 44 = .ok (.goto (-27), 3) := by decide +kernel
theorem dX8_offs_47 : decode cX8_offs 47 = .ok (.aload_n 0, 1) := by decide +kernel
theorem dX8_offs_48 : decode cX8_offs 48 = .ok (.getfield 74, 3) := by decide +kernel
theorem dX8_offs_51 : decode cX8_offs 51 = .ok (.iload_n 3, 1) := by decide +kernel
theorem dX8_offs_52 : decode cX8_offs 52 = .ok (.iaload, 1) := by decide +kernel
theorem dX8_offs_53 : decode cX8_offs 53 = .ok (.ifCond .ge 6, 3) := by decide +kernel
theorem dX8_offs_56 : decode cX8_offs 56 = .ok (.goto 99, 3) := by decide +kernel
theorem dX8_offs_59 : decode cX8_offs 59 = .ok (.aload_n 0, 1) := by decide +kernel
theorem dX8_offs_60 : decode cX8_offs 60 = .ok (.aload_n 0, 1) := by decide +kernel
theorem dX8_offs_61 : decode cX8_offs 61 = .ok (.getfield 184, 3) := by decide +kernel
theorem dX8_offs_64 : decode cX8_offs 64 = .ok (.aload_n 0, 1) := by decide +kernel
theorem dX8_offs_65 : decode cX8_offs 65 = .ok (.getfield 187, 3) := by decide +kernel
theorem dX8_offs_68 : decode cX8_offs 68 = .ok (.invokevirtual 190, 3) := by decide +kernel
theorem dX8_offs_71 : decode cX8_offs 71 = .ok (.istore 4, 2) := by decide +kernel
theorem dX8_offs_73 : decode cX8_offs 73 = .ok (.aload_n 0, 1) := by decide +kernel
theorem dX8_offs_74 : decode cX8_offs 74 = .ok (.getfield 203, 3) := by decide +kernel
theorem dX8_offs_77 : decode cX8_offs 77 = .ok (.bipush 10, 2) := by decide +kernel
theorem dX8_offs_79 : decode cX8_offs 79 = .ok (.iload_n 3, 1) := by decide +kernel
theorem dX8_offs_80 : decode cX8_offs 80 = .ok (.imul, 1) := by decide +kernel
theorem dX8_offs_81 : decode cX8_offs 81 = .ok (.if_icmp .ge 9, 3) := by decide +kernel
theorem dX8_offs_84 : decode cX8_offs 84 = .ok (.ldc_w 281, 3) := by decide +kernel
theorem dX8_offs_87 : decode cX8_offs 87 = .ok (.goto 35, 3) := by decide +kernel
theorem dX8_offs_90 : decode cX8_offs 90 = .ok (.iload 4, 2) := by decide +kernel
theorem dX8_offs_92 : decode cX8_offs 92 = .ok (.aload_n 0, 1) := by decide +kernel
theorem dX8_offs_93 : decode cX8_offs 93 = .ok (.getfield 74, 3) := by decide +kernel
theorem dX8_offs_96 : decode cX8_offs 96 = .ok (.iload_n 3, 1) := by decide +kernel
theorem dX8_offs_97 : decode cX8_offs 97 = .ok (.iaload, 1) := by decide +kernel
theorem dX8_offs_98 : decode cX8_offs 98 = .ok (.if_icmp .le 15, 3) := by decide +kernel
theorem dX8_offs_101 : decode cX8_offs 101 = .ok (.iload 4, 2) := by decide +kernel
theorem dX8_offs_103 : decode cX8_offs 103 = .ok (.aload_n 0, 1) := by decide +kernel
theorem dX8_offs_104 : decode cX8_offs 104 = .ok (.getfield 74, 3) := by decide +kernel
theorem dX8_offs_107 : decode cX8_offs 107 = .ok (.iload_n 3, 1) := by decide +kernel
theorem dX8_offs_108 : decode cX8_offs 108 = .ok (.iaload, 1) := by decide +kernel
theorem dX8_offs_109 : decode cX8_offs 109 = .ok (.isub, 1) := by decide +kernel
theorem dX8_offs_110 : decode cX8_offs 110 = .ok (.goto 12, 3) := by decide +kernel
theorem dX8_offs_113 : decode cX8_offs 113 = .ok (.aload_n 0, 1) := by decide +kernel
theorem dX8_offs_114 : decode cX8_offs 114 = .ok (.getfield 74, 3) := by decide +kernel
theorem dX8_offs_117 : decode cX8_offs 117 = .ok (.iload_n 3, 1) := by decide +kernel
theorem dX8_offs_118 : decode cX8_offs 118 = .ok (.iaload, 1) := by decide +kernel
theorem dX8_offs_119 : decode cX8_offs 119 = .ok (.iload 4, 2) := by decide +kernel
theorem dX8_offs_121 : decode cX8_offs 121 = .ok (.isub, 1) := by decide +kernel
theorem dX8_offs_122 : decode cX8_offs 122 = .ok (.istore 5, 2) := by decide +kernel
theorem dX8_offs_124 : decode cX8_offs 124 = .ok (.iload_n 1, 1) := by decide +kernel
theorem dX8_offs_125 : decode cX8_offs 125 = .ok (.ifCond .eq 25, 3) := by decide +kernel
theorem dX8_offs_128 : decode cX8_offs 128 = .ok (.aload_n 0, 1) := by decide +kernel
theorem dX8_offs_129 : decode cX8_offs 129 = .ok (.getfield 203, 3) := by decide +kernel
theorem dX8_offs_132 : decode cX8_offs 132 = .ok (.bipush 10, 2) := by decide +kernel
theorem dX8_offs_134 : decode cX8_offs 134 = .ok (.iload_n 3, 1) := by decide +kernel
theorem dX8_offs_135 : decode cX8_offs 135 = .ok (.imul, 1) := by decide +kernel
theorem dX8_offs_136 : decode cX8_offs 136 = .ok (.if_icmp .lt 12, 3) := by decide +kernel
theorem dX8_offs_139 : decode cX8_offs 139 = .ok (.iload 5, 2) := by decide +kernel
theorem dX8_offs_141 : decode cX8_offs 141 = .ok (.aload_n 0, 1) := by decide +kernel
theorem dX8_offs_142 : decode cX8_offs 142 = .ok (.getfield 285, 3) := by decide +kernel
theorem dX8_offs_145 : decode cX8_offs 145 = .ok (.if_icmp .le 5, 3) := by decide +kernel
theorem dX8_offs_148 : decode cX8_offs 148 = .ok (.iload_n 3, 1) := by decide +kernel
theorem dX8_offs_149 : decode cX8_offs 149 = .ok (.ireturn, 1) := by decide +kernel
theorem dX8_offs_150 : decode cX8_offs 150 = .ok (.iload_n 2, 1) := by decide +kernel
theorem dX8_offs_151 : decode cX8_offs 151 = .ok (.iload 5, 2) := by decide +kernel
theorem dX8_offs_153 : decode cX8_offs 153 = .ok (.iadd, 1) := by decide +kernel
theorem dX8_offs_154 : decode cX8_offs 154 = .ok (.istore_n 2, 1) := by decide +kernel
theorem dX8_offs_155 : decode cX8_offs 155 = .ok (.iinc 3 1, 3) := by decide +kernel
theorem dX8_offs_158 : decode cX8_offs 158 = .ok (.goto (-149), 3) := by decide +kernel
theorem dX8_offs_161 : decode cX8_offs 161 = .ok (.iload_n 1, 1) := by decide +kernel
theorem dX8_offs_162 : decode cX8_offs 162 = .ok (.ifCond .eq 8, 3) := by decide +kernel
theorem dX8_offs_165 : decode cX8_offs 165 = .ok (.bipush (-9), 2) := by decide +kernel
theorem dX8_offs_167 : decode cX8_offs 167 = .ok (.goto 4, 3) := by decide +kernel
theorem dX8_offs_170 : decode cX8_offs 170 = .ok (.iload_n 2, 1) := by decide +kernel
theorem dX8_offs_171 : decode cX8_offs 171 = .ok (.ireturn, 1) := by decide +kernel
theorem dX8_firstOffOf_0 : decode cX8_firstOffOf 0 = .ok (.aload_n 0, 1) := by decide +kernel
theorem dX8_firstOffOf_1 : decode cX8_firstOffOf 1 = .ok (.aload_n 0, 1) := by decide +kernel
theorem dX8_firstOffOf_2 : decode cX8_firstOffOf 2 = .ok (.getfield 250, 3) := by decide +kernel
theorem dX8_firstOffOf_5 : decode cX8_firstOffOf 5 = .ok (.aload_n 0, 1) := by decide +kernel
theorem dX8_firstOffOf_6 : decode cX8_firstOffOf 6 = .ok (.getfield 259, 3) := by decide +kernel
theorem dX8_firstOffOf_9 : decode cX8_firstOffOf 9 = .ok (.aload_n 0, 1) := by decide +kernel
theorem dX8_firstOffOf_10 : decode cX8_firstOffOf 10 = .ok (.getfield 256, 3) := by decide +kernel
theorem dX8_firstOffOf_13 : decode cX8_firstOffOf 13 = .ok (.iload_n 1, 1) := by decide +kernel
theorem dX8_firstOffOf_14 : decode cX8_firstOffOf 14 = .ok (.invokevirtual 234, 3) := by decide +kernel
theorem dX8_firstOffOf_17 : decode cX8_firstOffOf 17 = .ok (.aload_n 0, 1) := by decide +kernel
theorem dX8_firstOffOf_18 : decode cX8_firstOffOf 18 = .ok (.iconst 1, 1) := by decide +kernel
theorem dX8_firstOffOf_19 : decode cX8_firstOffOf 19 = .ok (.invokevirtual 288, 3) := by decide +kernel
theorem dX8_firstOffOf_22 : decode cX8_firstOffOf 22 = .ok (.ireturn, 1) := by decide +kernel
theorem dX8_isSet_0 : decode cX8_isSet 0 = .ok (.iload_n 1, 1) := by decide +kernel
theorem dX8_isSet_1 : decode cX8_isSet 1 = .ok (.ifCond .lt 15, 3) := by decide +kernel
theorem dX8_isSet_4 : decode cX8_isSet 4 = .ok (.iload_n 1, 1) := by decide +kernel
theorem dX8_isSet_5 : decode cX8_isSet 5 = .ok (.aload_n 0, 1) := by decide +kernel
theorem dX8_isSet_6 : decode cX8_isSet 6 = .ok (.invokevirtual 231, 3) := by decide +kernel
theorem dX8_isSet_9 : decode cX8_isSet 9 = .ok (.if_icmp .gt 7, 3) := by decide +kernel
theorem dX8_isSet_12 : decode cX8_isSet 12 = .ok (.iconst 1, 1) := by decide +kernel
theorem dX8_isSet_13 : decode cX8_isSet 13 = .ok (.goto 4, 3) := by decide +kernel
theorem dX8_isSet_16 : decode cX8_isSet 16 = .ok (.iconst 0, 1) := by decide +kernel
theorem dX8_isSet_17 : decode cX8_isSet 17 = .ok (.ireturn, 1) := by decide +kernel
theorem dX8_firstOff_0 : decode cX8_firstOff 0 = .ok (.aload_n 0, 1) := by decide +kernel
theorem dX8_firstOff_1 : decode cX8_firstOff 1 = .ok (.iload_n 1, 1) := by decide +kernel
theorem dX8_firstOff_2 : decode cX8_firstOff 2 = .ok (.invokevirtual 292, 3) := by decide +kernel
theorem dX8_firstOff_5 : decode cX8_firstOff 5 = .ok (.ifCond .ne 9, 3) := by decide +kernel
theorem dX8_firstOff_8 : decode cX8_firstOff 8 = .ok (.aload_n 0, 1) := by decide +kernel
theorem dX8_firstOff_9 : decode cX8_firstOff 9 = .ok (.iconst (-1), 1) := by decide +kernel
theorem dX8_firstOff_10 : decode cX8_firstOff 10 = .ok (.invokevirtual 93, 3) := by decide +kernel
theorem dX8_firstOff_13 : decode cX8_firstOff 13 = .ok (.ireturn, 1) := by decide +kernel
theorem dX8_firstOff_14 : decode cX8_firstOff 14 = .ok (.aload_n 0, 1) := by decide +kernel
theorem dX8_firstOff_15 : decode cX8_firstOff 15 = .ok (.getfield 253, 3) := by decide +kernel
theorem dX8_firstOff_18 : decode cX8_firstOff 18 = .ok (.ifCond .ne 12, 3) := by decide +kernel
theorem dX8_firstOff_21 : decode cX8_firstOff 21 = .ok (.aload_n 0, 1) := by decide +kernel
theorem dX8_firstOff_22 : decode cX8_firstOff 22 = .ok (.bipush (-3), 2) := by decide +kernel
theorem dX8_firstOff_24 : decode cX8_firstOff 24 = .ok (.invokevirtual 93, 3) := by decide +kernel
theorem dX8_firstOff_27 : decode cX8_firstOff 27 = .ok (.goto 8, 3) := by decide +kernel
theorem dX8_firstOff_30 : decode cX8_firstOff 30 = .ok (.aload_n 0, 1) := by decide +kernel
theorem dX8_firstOff_31 : decode cX8_firstOff 31 = .ok (.iload_n 1, 1) := by decide +kernel
theorem dX8_firstOff_32 : decode cX8_firstOff 32 = .ok (.invokevirtual 295, 3) := by decide +kernel
theorem dX8_firstOff_35 : decode cX8_firstOff 35 = .ok (.ireturn, 1) := by decide +kernel
theorem dX8_bits_0 : decode cX8_bits 0 = .ok (.iconst 0, 1) := by decide +kernel
theorem dX8_bits_1 : decode cX8_bits 1 = .ok (.istore_n 1, 1) := by decide +kernel
theorem dX8_bits_2 : decode cX8_bits 2 = .ok (.iconst 0, 1) := by decide +kernel
theorem dX8_bits_3 : decode cX8_bits 3 = .ok (.istore_n 2, 1) := by decide +kernel
theorem dX8_bits_4 : decode cX8_bits 4 = .ok (.iload_n 2, 1) := by decide +kernel
theorem dX8_bits_5 : decode cX8_bits 5 = .ok (.bipush 31, 2) := by decide +kernel
theorem dX8_bits_7 : decode cX8_bits 7 = .ok (.if_icmp .ge 17, 3) := by decide +kernel
theorem dX8_bits_10 : decode cX8_bits 10 = .ok (.iload_n 1, 1) := by decide +kernel
theorem dX8_bits_11 : decode cX8_bits 11 = .ok (.iload_n 0, 1) := by decide +kernel
theorem dX8_bits_12 : decode cX8_bits 12 = .ok (.iload_n 2, 1) := by decide +kernel
theorem dX8_bits_13 : decode cX8_bits 13 = .ok (.ishr, 1) := by decide +kernel
theorem dX8_bits_14 : decode cX8_bits 14 = .ok (.iconst 1, 1) := by decide +kernel
theorem dX8_bits_15 : decode cX8_bits 15 = .ok (.iand, 1) := by decide +kernel
theorem dX8_bits_16 : decode cX8_bits 16 = .ok (.iadd, 1) := by decide +kernel
theorem dX8_bits_17 : decode cX8_bits 17 = .ok (.istore_n 1, 1) := by decide +kernel
theorem dX8_bits_18 : decode cX8_bits 18 = .ok (.iinc 2 1, 3) := by decide +kernel
theorem dX8_bits_21 : decode cX8_bits 21 = .ok (.goto (-17), 3) := by decide +kernel
theorem dX8_bits_24 : decode cX8_bits 24 = .ok (.iload_n 1, 1) := by decide +kernel
theorem dX8_bits_25 : decode cX8_bits 25 = .ok (.ireturn, 1) := by decide +kernel
theorem dX8_supposed_0 : decode cX8_supposed 0 = .ok (.iload_n 1, 1) := by decide +kernel
theorem dX8_supposed_1 : decode cX8_supposed 1 = .ok (.iconst 0, 1) := by decide +kernel
theorem dX8_supposed_2 : decode cX8_supposed 2 = .ok (.iconst 1, 1) := by decide +kernel
theorem dX8_supposed_3 : decode cX8_supposed 3 = .ok (.invokestatic 106, 3) := by decide +kernel
theorem dX8_supposed_6 : decode cX8_supposed 6 = .ok (.ifCond .ne 10, 3) := by decide +kernel
theorem dX8_supposed_9 : decode cX8_supposed 9 = .ok (.aload_n 0, 1) := by decide +kernel
theorem dX8_supposed_10 : decode cX8_supposed 10 = .ok (.bipush (-2), 2) := by decide +kernel
theorem dX8_supposed_12 : decode cX8_supposed 12 = .ok (.invokevirtual 93, 3) := by decide +kernel
theorem dX8_supposed_15 : decode cX8_supposed 15 = .ok (.ireturn, 1) := by decide +kernel
theorem dX8_supposed_16 : decode cX8_supposed 16 = .ok (.aload_n 0, 1) := by decide +kernel
theorem dX8_supposed_17 : decode cX8_supposed 17 = .ok (.getfield 253, 3) := by decide +kernel
theorem dX8_supposed_20 : decode cX8_supposed 20 = .ok (.ifCond .ne 10, 3) := by decide +kernel
theorem dX8_supposed_23 : decode cX8_supposed 23 = .ok (.aload_n 0, 1) := by decide +kernel
theorem dX8_supposed_24 : decode cX8_supposed 24 = .ok (.bipush (-3), 2) := by decide +kernel
theorem dX8_supposed_26 : decode cX8_supposed 26 = .ok (.invokevirtual 93, 3) := by decide +kernel
theorem dX8_supposed_29 : decode cX8_supposed 29 = .ok (.ireturn, 1) := by decide +kernel
theorem dX8_supposed_30 : decode cX8_supposed 30 = .ok (.iconst 0, 1) := by decide +kernel
theorem dX8_supposed_31 : decode cX8_supposed 31 = .ok (.istore_n 2, 1) := by decide +kernel
theorem dX8_supposed_32 : decode cX8_supposed 32 = .ok (.bipush (-9), 2) := by decide +kernel
theorem dX8_supposed_34 : decode cX8_supposed 34 = .ok (.istore_n 3, 1) := by decide +kernel
theorem dX8_supposed_35 : decode cX8_supposed 35 = .ok (.iconst 0, 1) := by decide +kernel
theorem dX8_supposed_36 : decode cX8_supposed 36 = .ok (.istore 4, 2) := by decide +kernel
theorem dX8_supposed_38 : decode cX8_supposed 38 = .ok (.iload 4, 2) := by decide +kernel
theorem dX8_supposed_40 : decode cX8_supposed 40 = .ok (.aload_n 0, 1) := by decide +kernel
theorem dX8_supposed_41 : decode cX8_supposed 41 = .ok (.invokevirtual 231, 3) := by decide +kernel
theorem dX8_supposed_44 : decode cX8_supposed 44 = .ok (.if_icmp .gt 45, 3) := by decide +kernel
theorem dX8_supposed_47 : decode cX8_supposed 47 = .ok (.aload_n 0, 1) := by decide +kernel
theorem dX8_supposed_48 : decode cX8_supposed 48 = .ok (.iload 4, 2) := by decide +kernel
theorem dX8_supposed_50 : decode cX8_supposed 50 = .ok (.invokevirtual 295, 3) := by decide +kernel
theorem dX8_supposed_53 : decode cX8_supposed 53 = .ok (.bipush (-9), 2) := by decide +kernel
theorem dX8_supposed_55 : decode cX8_supposed 55 = .ok (.if_icmp .eq 6, 3) := by decide +kernel
theorem dX8_supposed_58 : decode cX8_supposed 58 = .ok (.goto 25, 3) := by decide +kernel
theorem dX8_supposed_61 : decode cX8_supposed 61 = .ok (.iinc 2 1, 3) := by decide +kernel
theorem dX8_supposed_64 : decode cX8_supposed 64 = .ok (.iload_n 3, 1) := by decide +kernel
theorem dX8_supposed_65 : decode cX8_supposed 65 = .ok (.ifCond .lt 15, 3) := by decide +kernel
theorem dX8_supposed_68 : decode cX8_supposed 68 = .ok (.iload 4, 2) := by decide +kernel
theorem dX8_supposed_70 : decode cX8_supposed 70 = .ok (.invokestatic 298, 3) := by decide +kernel
theorem dX8_supposed_73 : decode cX8_supposed 73 = .ok (.iload_n 3, 1) := by decide +kernel
theorem dX8_supposed_74 : decode cX8_supposed 74 = .ok (.invokestatic 298, 3) := by decide +kernel
theorem dX8_supposed_77 : decode cX8_supposed 77 = .ok (.if_icmp .ge 6, 3) := by decide +kernel
theorem dX8_supposed_80 : decode cX8_supposed 80 = .ok (.iload 4, 2) := by decide +kernel
theorem dX8_supposed_82 : decode cX8_supposed 82 = .ok (.istore_n 3, 1) := by decide +kernel
theorem dX8_supposed_83 : decode cX8_supposed 83 = .ok (.iinc 4 1, 3) := by decide +kernel
theorem dX8_supposed_86 : decode cX8_supposed 86 = .ok (.goto (-48), 3) := by decide +kernel
theorem dX8_supposed_89 : decode cX8_supposed 89 = .ok (.iload_n 1, 1) := by decide +kernel
theorem dX8_supposed_90 : decode cX8_supposed 90 = .ok (.ifCond .ne 7, 3) := by decide +kernel
theorem dX8_supposed_93 : decode cX8_supposed 93 = .ok (.iload_n 2, 1) := by decide +kernel
theorem dX8_supposed_94 : decode cX8_supposed 94 = .ok (.goto 4, 3) := by decide +kernel
theorem dX8_supposed_97 : decode cX8_supposed 97 = .ok (.iload_n 3, 1) := by decide +kernel
theorem dX8_supposed_98 : decode cX8_supposed 98 = .ok (.ireturn, 1) := by decide +kernel
theorem dX8_aheadOf_0 : decode cX8_aheadOf 0 = .ok (.aload_n 0, 1) := by decide +kernel
theorem dX8_aheadOf_1 : decode cX8_aheadOf 1 = .ok (.iload_n 1, 1) := by decide +kernel
theorem dX8_aheadOf_2 : decode cX8_aheadOf 2 = .ok (.iconst 2, 1) := by decide +kernel
theorem dX8_aheadOf_3 : decode cX8_aheadOf 3 = .ok (.if_icmp .ne 7, 3) := by decide +kernel
theorem dX8_aheadOf_6 : decode cX8_aheadOf 6 = .ok (.iload_n 3, 1) := by decide +kernel
theorem dX8_aheadOf_7 : decode cX8_aheadOf 7 = .ok (.goto 7, 3) := by decide +kernel
theorem dX8_aheadOf_10 : decode cX8_aheadOf 10 = .ok (.aload_n 0, 1) := by decide +kernel
theorem dX8_aheadOf_11 : decode cX8_aheadOf 11 = .ok (.getfield 250, 3) := by decide +kernel
theorem dX8_aheadOf_14 : decode cX8_aheadOf 14 = .ok (.iload_n 1, 1) := by decide +kernel
theorem dX8_aheadOf_15 : decode cX8_aheadOf 15 = .ok (.iconst 4, 1) := by decide +kernel
theorem dX8_aheadOf_16 : decode cX8_aheadOf 16 = .ok (.if_icmp .ne 12, 3) := by decide +kernel
theorem dX8_aheadOf_19 : decode cX8_aheadOf 19 = .ok (.aload_n 0, 1) := by decide +kernel
theorem dX8_aheadOf_20 : decode cX8_aheadOf 20 = .ok (.getfield 259, 3) := by decide +kernel
theorem dX8_aheadOf_23 : decode cX8_aheadOf 23 = .ok (.iconst 2, 1) := by decide +kernel
theorem dX8_aheadOf_24 : decode cX8_aheadOf 24 = .ok (.idiv, 1) := by decide +kernel
theorem dX8_aheadOf_25 : decode cX8_aheadOf 25 = .ok (.goto 7, 3) := by decide +kernel
theorem dX8_aheadOf_28 : decode cX8_aheadOf 28 = .ok (.aload_n 0, 1) := by decide +kernel
theorem dX8_aheadOf_29 : decode cX8_aheadOf 29 = .ok (.getfield 259, 3) := by decide +kernel
theorem dX8_aheadOf_32 : decode cX8_aheadOf 32 = .ok (.iload_n 1, 1) := by decide +kernel
theorem dX8_aheadOf_33 : decode cX8_aheadOf 33 = .ok (.iconst 3, 1) := by decide +kernel
theorem dX8_aheadOf_34 : decode cX8_aheadOf 34 = .ok (.if_icmp .ne 7, 3) := by decide +kernel
theorem dX8_aheadOf_37 : decode cX8_aheadOf 37 = .ok (.iload_n 3, 1) := by decide +kernel
theorem dX8_aheadOf_38 : decode cX8_aheadOf 38 = .ok (.goto 7, 3) := by decide +kernel
theorem dX8_aheadOf_41 : decode cX8_aheadOf 41 = .ok (.aload_n 0, 1) := by decide +kernel
theorem dX8_aheadOf_42 : decode cX8_aheadOf 42 = .ok (.getfield 256, 3) := by decide +kernel
theorem dX8_aheadOf_45 : decode cX8_aheadOf 45 = .ok (.iload_n 2, 1) := by decide +kernel
theorem dX8_aheadOf_46 : decode cX8_aheadOf 46 = .ok (.invokevirtual 234, 3) := by decide +kernel
theorem dX8_aheadOf_49 : decode cX8_aheadOf 49 = .ok (.iload_n 1, 1) := by decide +kernel
theorem dX8_aheadOf_50 : decode cX8_aheadOf 50 = .ok (.iconst 1, 1) := by decide +kernel
theorem dX8_aheadOf_51 : decode cX8_aheadOf 51 = .ok (.if_icmp .ne 13, 3) := by decide +kernel
theorem dX8_aheadOf_54 : decode cX8_aheadOf 54 = .ok (.aload_n 0, 1) := by decide +kernel
theorem dX8_aheadOf_55 : decode cX8_aheadOf 55 = .ok (.iconst 1, 1) := by decide +kernel
theorem dX8_aheadOf_56 : decode cX8_aheadOf 56 = .ok (.aload_n 0, 1) := by decide +kernel
theorem dX8_aheadOf_57 : decode cX8_aheadOf 57 = .ok (.getfield 37, 3) := by decide +kernel
theorem dX8_aheadOf_60 : decode cX8_aheadOf 60 = .ok (.isub, 1) := by decide +kernel
theorem dX8_aheadOf_61 : decode cX8_aheadOf 61 = .ok (.putfield 194, 3) := by decide +kernel
theorem dX8_aheadOf_64 : decode cX8_aheadOf 64 = .ok (.aload_n 0, 1) := by decide +kernel
theorem dX8_aheadOf_65 : decode cX8_aheadOf 65 = .ok (.iconst 1, 1) := by decide +kernel
theorem dX8_aheadOf_66 : decode cX8_aheadOf 66 = .ok (.invokevirtual 238, 3) := by decide +kernel
theorem dX8_aheadOf_69 : decode cX8_aheadOf 69 = .ok (.ireturn, 1) := by decide +kernel
theorem dX8_ahead_0 : decode cX8_ahead 0 = .ok (.aload_n 0, 1) := by decide +kernel
theorem dX8_ahead_1 : decode cX8_ahead 1 = .ok (.iload_n 2, 1) := by decide +kernel
theorem dX8_ahead_2 : decode cX8_ahead 2 = .ok (.invokevirtual 292, 3) := by decide +kernel
theorem dX8_ahead_5 : decode cX8_ahead 5 = .ok (.ifCond .eq 28, 3) := by decide +kernel
theorem dX8_ahead_8 : decode cX8_ahead 8 = .ok (.iload_n 1, 1) := by decide +kernel
theorem dX8_ahead_9 : decode cX8_ahead 9 = .ok (.iconst 2, 1) := by decide +kernel
theorem dX8_ahead_10 : decode cX8_ahead 10 = .ok (.if_icmp .ne 11, 3) := by decide +kernel
theorem dX8_ahead_13 : decode cX8_ahead 13 = .ok (.aload_n 0, 1) := by decide +kernel
theorem dX8_ahead_14 : decode cX8_ahead 14 = .ok (.iload_n 3, 1) := by decide +kernel
theorem dX8_ahead_15 : decode cX8_ahead 15 = .ok (.invokevirtual 129, 3) := by decide +kernel
theorem dX8_ahead_18 : decode cX8_ahead 18 = .ok (.ifCond .eq 15, 3) := by decide +kernel
theorem dX8_ahead_21 : decode cX8_ahead 21 = .ok (.iload_n 1, 1) := by decide +kernel
theorem dX8_ahead_22 : decode cX8_ahead 22 = .ok (.iconst 3, 1) := by decide +kernel
theorem dX8_ahead_23 : decode cX8_ahead 23 = .ok (.if_icmp .ne 16, 3) := by decide +kernel
theorem dX8_ahead_26 : decode cX8_ahead 26 = .ok (.iload_n 3, 1) := by decide +kernel
theorem dX8_ahead_27 : decode cX8_ahead 27 = .ok (.invokestatic 174, 3) := by decide +kernel
theorem dX8_ahead_30 : decode cX8_ahead 30 = .ok (.ifCond .ne 9, 3) := by decide +kernel
theorem dX8_ahead_33 : decode cX8_ahead 33 = .ok (.aload_n 0, 1) := by decide +kernel
theorem dX8_ahead_34 : decode cX8_ahead 34 = .ok (.iconst (-1), 1) := by decide +kernel
theorem dX8_ahead_35 : decode cX8_ahead 35 = .ok (.invokevirtual 93, 3) := by decide +kernel
theorem dX8_ahead_38 : decode cX8_ahead 38 = .ok (.ireturn, 1) := by decide +kernel
theorem dX8_ahead_39 : decode cX8_ahead 39 = .ok (.iload_n 1, 1) := by decide +kernel
theorem dX8_ahead_40 : decode cX8_ahead 40 = .ok (.iconst 0, 1) := by decide +kernel
theorem dX8_ahead_41 : decode cX8_ahead 41 = .ok (.iconst 4, 1) := by decide +kernel
theorem dX8_ahead_42 : decode cX8_ahead 42 = .ok (.invokestatic 106, 3) := by decide +kernel
theorem dX8_ahead_45 : decode cX8_ahead 45 = .ok (.ifCond .ne 10, 3) := by decide +kernel
theorem dX8_ahead_48 : decode cX8_ahead 48 = .ok (.aload_n 0, 1) := by decide +kernel
theorem dX8_ahead_49 : decode cX8_ahead 49 = .ok (.bipush (-2), 2) := by decide +kernel
theorem dX8_ahead_51 : decode cX8_ahead 51 = .ok (.invokevirtual 93, 3) := by decide +kernel
theorem dX8_ahead_54 : decode cX8_ahead 54 = .ok (.ireturn, 1) := by decide +kernel
theorem dX8_ahead_55 : decode cX8_ahead 55 = .ok (.aload_n 0, 1) := by decide +kernel
theorem dX8_ahead_56 : decode cX8_ahead 56 = .ok (.getfield 253, 3) := by decide +kernel
theorem dX8_ahead_59 : decode cX8_ahead 59 = .ok (.ifCond .ne 12, 3) := by decide +kernel
theorem dX8_ahead_62 : decode cX8_ahead 62 = .ok (.aload_n 0, 1) := by decide +kernel
theorem dX8_ahead_63 : decode cX8_ahead 63 = .ok (.bipush (-3), 2) := by decide +kernel
theorem dX8_ahead_65 : decode cX8_ahead 65 = .ok (.invokevirtual 93, 3) := by decide +kernel
theorem dX8_ahead_68 : decode cX8_ahead 68 = .ok (.goto 10, 3) := by decide +kernel
theorem dX8_ahead_71 : decode cX8_ahead 71 = .ok (.aload_n 0, 1) := by decide +kernel
theorem dX8_ahead_72 : decode cX8_ahead 72 = .ok (.iload_n 1, 1) := by decide +kernel
theorem dX8_ahead_73 : decode cX8_ahead 73 = .ok (.iload_n 2, 1) := by decide +kernel
theorem dX8_ahead_74 : decode cX8_ahead 74 = .ok (.iload_n 3, 1) := by decide +kernel
theorem dX8_ahead_75 : decode cX8_ahead 75 = .ok (.invokevirtual 301, 3) := by decide +kernel
theorem dX8_ahead_78 : decode cX8_ahead 78 = .ok (.ireturn, 1) := by decide +kernel
theorem dX8_parts_0 : decode cX8_parts 0 = .ok (.aload_n 0, 1) := by decide +kernel
theorem dX8_parts_1 : decode cX8_parts 1 = .ok (.iload_n 1, 1) := by decide +kernel
theorem dX8_parts_2 : decode cX8_parts 2 = .ok (.invokevirtual 292, 3) := by decide +kernel
theorem dX8_parts_5 : decode cX8_parts 5 = .ok (.ifCond .eq 27, 3) := by decide +kernel
theorem dX8_parts_8 : decode cX8_parts 8 = .ok (.aload_n 0, 1) := by decide +kernel
theorem dX8_parts_9 : decode cX8_parts 9 = .ok (.iload_n 2, 1) := by decide +kernel
theorem dX8_parts_10 : decode cX8_parts 10 = .ok (.invokevirtual 292, 3) := by decide +kernel
theorem dX8_parts_13 : decode cX8_parts 13 = .ok (.ifCond .eq 19, 3) := by decide +kernel
theorem dX8_parts_16 : decode cX8_parts 16 = .ok (.aload_n 0, 1) := by decide +kernel
theorem dX8_parts_17 : decode cX8_parts 17 = .ok (.iload_n 3, 1) := by decide +kernel
theorem dX8_parts_18 : decode cX8_parts 18 = .ok (.invokevirtual 129, 3) := by decide +kernel
theorem dX8_parts_21 : decode cX8_parts 21 = .ok (.ifCond .eq 11, 3) := by decide +kernel
theorem dX8_parts_24 : decode cX8_parts 24 = .ok (.iload 4, 2) := by decide +kernel
theorem dX8_parts_26 : decode cX8_parts 26 = .ok (.invokestatic 174, 3) := by decide +kernel
theorem dX8_parts_29 : decode cX8_parts 29 = .ok (.ifCond .ne 9, 3) := by decide +kernel
theorem dX8_parts_32 : decode cX8_parts 32 = .ok (.aload_n 0, 1) := by decide +kernel
theorem dX8_parts_33 : decode cX8_parts 33 = .ok (.iconst (-1), 1) := by decide +kernel
theorem dX8_parts_34 : decode cX8_parts 34 = .ok (.invokevirtual 93, 3) := by decide +kernel
theorem dX8_parts_37 : decode cX8_parts 37 = .ok (.ireturn, 1) := by decide +kernel
theorem dX8_parts_38 : decode cX8_parts 38 = .ok (.iload 5, 2) := by decide +kernel
theorem dX8_parts_40 : decode cX8_parts 40 = .ok (.iconst 0, 1) := by decide +kernel
theorem dX8_parts_41 : decode cX8_parts 41 = .ok (.iconst 1, 1) := by decide +kernel
theorem dX8_parts_42 : decode cX8_parts 42 = .ok (.invokestatic 106, 3) := by decide +kernel
theorem dX8_parts_45 : decode cX8_parts 45 = .ok (.ifCond .ne 10, 3) := by decide +kernel
theorem dX8_parts_48 : decode cX8_parts 48 = .ok (.aload_n 0, 1) := by decide +kernel
theorem dX8_parts_49 : decode cX8_parts 49 = .ok (.bipush (-2), 2) := by decide +kernel
theorem dX8_parts_51 : decode cX8_parts 51 = .ok (.invokevirtual 93, 3) := by decide +kernel
theorem dX8_parts_54 : decode cX8_parts 54 = .ok (.ireturn, 1) := by decide +kernel
theorem dX8_parts_55 : decode cX8_parts 55 = .ok (.aload_n 0, 1) := by decide +kernel
theorem dX8_parts_56 : decode cX8_parts 56 = .ok (.getfield 253, 3) := by decide +kernel
theorem dX8_parts_59 : decode cX8_parts 59 = .ok (.ifCond .ne 10, 3) := by decide +kernel
theorem dX8_parts_62 : decode cX8_parts 62 = .ok (.aload_n 0, 1) := by decide +kernel
theorem dX8_parts_63 : decode cX8_parts 63 = .ok (.bipush (-3), 2) := by decide +kernel
theorem dX8_parts_65 : decode cX8_parts 65 = .ok (.invokevirtual 93, 3) := by decide +kernel
theorem dX8_parts_68 : decode cX8_parts 68 = .ok (.ireturn, 1) := by decide +kernel
theorem dX8_parts_69 : decode cX8_parts 69 = .ok (.iconst 0, 1) := by decide +kernel
theorem dX8_parts_70 : decode cX8_parts 70 = .ok (.istore 6, 2) := by decide +kernel
theorem dX8_parts_72 : decode cX8_parts 72 = .ok (.iconst (-1), 1) := by decide +kernel
theorem dX8_parts_73 : decode cX8_parts 73 = .ok (.istore 7, 2) := by decide +kernel
theorem dX8_parts_75 : decode cX8_parts 75 = .ok (.iconst 0, 1) := by decide +kernel
theorem dX8_parts_76 : decode cX8_parts 76 = .ok (.istore 8, 2) := by decide +kernel
theorem dX8_parts_78 : decode cX8_parts 78 = .ok (.iload 8, 2) := by decide +kernel
theorem dX8_parts_80 : decode cX8_parts 80 = .ok (.iconst 5, 1) := by decide +kernel
theorem dX8_parts_81 : decode cX8_parts 81 = .ok (.if_icmp .ge 77, 3) := by decide +kernel
theorem dX8_parts_84 : decode cX8_parts 84 = .ok (.iload 8, 2) := by decide +kernel
theorem dX8_parts_86 : decode cX8_parts 86 = .ok (.iconst 2, 1) := by decide +kernel
theorem dX8_parts_87 : decode cX8_parts 87 = .ok (.if_icmp .ne 7, 3) := by decide +kernel
theorem dX8_parts_90 : decode cX8_parts 90 = .ok (.iload_n 3, 1) := by decide +kernel
theorem dX8_parts_91 : decode cX8_parts 91 = .ok (.goto 5, 3) := by decide +kernel
theorem dX8_parts_94 : decode cX8_parts 94 = .ok (.iload 4, 2) := by decide +kernel
theorem dX8_parts_96 : decode cX8_parts 96 = .ok (.istore 9, 2) := by decide +kernel
theorem dX8_parts_98 : decode cX8_parts 98 = .ok (.aload_n 0, 1) := by decide +kernel
theorem dX8_parts_99 : decode cX8_parts 99 = .ok (.iload 8, 2) := by decide +kernel
theorem dX8_parts_101 : decode cX8_parts 101 = .ok (.iload_n 1, 1) := by decide +kernel
theorem dX8_parts_102 : decode cX8_parts 102 = .ok (.iload 9, 2) := by decide +kernel
theorem dX8_parts_104 : decode cX8_parts 104 = .ok (.invokevirtual 301, 3) := by decide +kernel
theorem dX8_parts_107 : decode cX8_parts 107 = .ok (.aload_n 0, 1) := by decide +kernel
theorem dX8_parts_108 : decode cX8_parts 108 = .ok (.iload 8, 2) := by decide +kernel
theorem dX8_parts_110 : decode cX8_parts 110 = .ok (.iload_n 2, 1) := by decide +kernel
theorem dX8_parts_111 : decode cX8_parts 111 = .ok (.iload 9, 2) := by decide +kernel
theorem dX8_parts_113 : decode cX8_parts 113 = .ok (.invokevirtual 301, 3) := by decide +kernel
theorem dX8_parts_116 : decode cX8_parts 116 = .ok (.isub, 1) := by decide +kernel
theorem dX8_parts_117 : decode cX8_parts 117 = .ok (.istore 10, 2) := by decide +kernel
theorem dX8_parts_119 : decode cX8_parts 119 = .ok (.iload 10, 2) := by decide +kernel
theorem dX8_parts_121 : decode cX8_parts 121 = .ok (.ifCond .ge 9, 3) := by decide +kernel
theorem dX8_parts_124 : decode cX8_parts 124 = .ok (.iload 10, 2) := by decide +kernel
theorem dX8_parts_126 : decode cX8_parts 126 = .ok (.ineg, 1) := by decide +kernel
theorem dX8_parts_127 : decode cX8_parts 127 = .ok (.goto 5, 3) := by decide +kernel
theorem dX8_parts_130 : decode cX8_parts 130 = .ok (.iload 10, 2) := by decide +kernel
theorem dX8_parts_132 : decode cX8_parts 132 = .ok (.istore 10, 2) := by decide +kernel
theorem dX8_parts_134 : decode cX8_parts 134 = .ok (.iload 10, 2) := by decide +kernel
theorem dX8_parts_136 : decode cX8_parts 136 = .ok (.iload 7, 2) := by decide +kernel
theorem dX8_parts_138 : decode cX8_parts 138 = .ok (.if_icmp .gt 6, 3) := by decide +kernel
theorem dX8_parts_141 : decode cX8_parts 141 = .ok (.goto 11, 3) := by decide +kernel
theorem dX8_parts_144 : decode cX8_parts 144 = .ok (.iload 10, 2) := by decide +kernel
theorem dX8_parts_146 : decode cX8_parts 146 = .ok (.istore 7, 2) := by decide +kernel
theorem dX8_parts_148 : decode cX8_parts 148 = .ok (.iload 8, 2) := by decide +kernel
theorem dX8_parts_150 : decode cX8_parts 150 = .ok (.istore 6, 2) := by decide +kernel
theorem dX8_parts_152 : decode cX8_parts 152 = .ok (.iinc 8 1, 3) := by decide +kernel
theorem dX8_parts_155 : decode cX8_parts 155 = .ok (.goto (-77), 3) := by decide +kernel
theorem dX8_parts_158 : decode cX8_parts 158 = .ok (.iload 5, 2) := by decide +kernel
theorem dX8_parts_160 : decode cX8_parts 160 = .ok (.ifCond .ne 8, 3) := by decide +kernel
theorem dX8_parts_163 : decode cX8_parts 163 = .ok (.iload 6, 2) := by decide +kernel
theorem dX8_parts_165 : decode cX8_parts 165 = .ok (.goto 5, 3) := by decide +kernel
theorem dX8_parts_168 : decode cX8_parts 168 = .ok (.iload 7, 2) := by decide +kernel
theorem dX8_parts_170 : decode cX8_parts 170 = .ok (.ireturn, 1) := by decide +kernel
theorem dX8_longest_0 : decode cX8_longest 0 = .ok (.iload_n 3, 1) := by decide +kernel
theorem dX8_longest_1 : decode cX8_longest 1 = .ok (.invokestatic 174, 3) := by decide +kernel
theorem dX8_longest_4 : decode cX8_longest 4 = .ok (.ifCond .ne 9, 3) := by decide +kernel
theorem dX8_longest_7 : decode cX8_longest 7 = .ok (.aload_n 0, 1) := by decide +kernel
theorem dX8_longest_8 : decode cX8_longest 8 = .ok (.iconst (-1), 1) := by decide +kernel
theorem dX8_longest_9 : decode cX8_longest 9 = .ok (.invokevirtual 93, 3) := by decide +kernel
theorem dX8_longest_12 : decode cX8_longest 12 = .ok (.ireturn, 1) := by decide +kernel
theorem dX8_longest_13 : decode cX8_longest 13 = .ok (.iload_n 1, 1) := by decide +kernel
theorem dX8_longest_14 : decode cX8_longest 14 = .ok (.sipush 999, 3) := by decide +kernel
theorem dX8_longest_17 : decode cX8_longest 17 = .ok (.iload_n 2, 1) := by decide +kernel
theorem dX8_longest_18 : decode cX8_longest 18 = .ok (.sipush 9000, 3) := by decide +kernel
theorem dX8_longest_21 : decode cX8_longest 21 = .ok (.invokestatic 164, 3) := by decide +kernel
theorem dX8_longest_24 : decode cX8_longest 24 = .ok (.istore 4, 2) := by decide +kernel
theorem dX8_longest_26 : decode cX8_longest 26 = .ok (.iload 4, 2) := by decide +kernel
theorem dX8_longest_28 : decode cX8_longest 28 = .ok (.ifCond .eq 10, 3) := by decide +kernel
theorem dX8_longest_31 : decode cX8_longest 31 = .ok (.aload_n 0, 1) := by decide +kernel
theorem dX8_longest_32 : decode cX8_longest 32 = .ok (.iload 4, 2) := by decide +kernel
theorem dX8_longest_34 : decode cX8_longest 34 = .ok (.invokevirtual 93, 3) := by decide +kernel
theorem dX8_longest_37 : decode cX8_longest 37 = .ok (.ireturn, 1) := by decide +kernel
theorem dX8_longest_38 : decode cX8_longest 38 = .ok (.bipush (-9), 2) := by decide +kernel
theorem dX8_longest_40 : decode cX8_longest 40 = .ok (.istore 5, 2) := by decide +kernel
theorem dX8_longest_42 : decode cX8_longest 42 = .ok (.iconst 0, 1) := by decide +kernel
theorem dX8_longest_43 : decode cX8_longest 43 = .ok (.istore 6, 2) := by decide +kernel
theorem dX8_longest_45 : decode cX8_longest 45 = .ok (.iconst 0, 1) := by decide +kernel
theorem dX8_longest_46 : decode cX8_longest 46 = .ok (.istore 7, 2) := by decide +kernel
theorem dX8_longest_48 : decode cX8_longest 48 = .ok (.iload 7, 2) := by decide +kernel
theorem dX8_longest_50 : decode cX8_longest 50 = .ok (.aload_n 0, 1) := by decide +kernel
theorem dX8_longest_51 : decode cX8_longest 51 = .ok (.getfield 123, 3) := by decide +kernel
theorem dX8_longest_54 : decode cX8_longest 54 = .ok (.if_icmp .ge 56, 3) := by decide +kernel
theorem dX8_longest_57 : decode cX8_longest 57 = .ok (.aload_n 0, 1) := by decide +kernel
theorem dX8_longest_58 : decode cX8_longest 58 = .ok (.getfield 16, 3) := by decide +kernel
theorem dX8_longest_61 : decode cX8_longest 61 = .ok (.iload 7, 2) := by decide +kernel
theorem dX8_longest_63 : decode cX8_longest 63 = .ok (.iaload, 1) := by decide +kernel
theorem dX8_longest_64 : decode cX8_longest 64 = .ok (.iload_n 1, 1) := by decide +kernel
theorem dX8_longest_65 : decode cX8_longest 65 = .ok (.if_icmp .le 6, 3) := by decide +kernel
theorem dX8_longest_68 : decode cX8_longest 68 = .ok (.goto 36, 3) := by decide +kernel
theorem dX8_longest_71 : decode cX8_longest 71 = .ok (.aload_n 0, 1) := by decide +kernel
theorem dX8_longest_72 : decode cX8_longest 72 = .ok (.iload 7, 2) := by decide +kernel
theorem dX8_longest_74 : decode cX8_longest 74 = .ok (.iload_n 2, 1) := by decide +kernel
theorem dX8_longest_75 : decode cX8_longest 75 = .ok (.iload_n 3, 1) := by decide +kernel
theorem dX8_longest_76 : decode cX8_longest 76 = .ok (.invokevirtual 272, 3) := by decide +kernel
theorem dX8_longest_79 : decode cX8_longest 79 = .ok (.istore 8, 2) := by decide +kernel
theorem dX8_longest_81 : decode cX8_longest 81 = .ok (.iload 5, 2) := by decide +kernel
theorem dX8_longest_83 : decode cX8_longest 83 = .ok (.ifCond .lt 13, 3) := by decide +kernel
theorem dX8_longest_86 : decode cX8_longest 86 = .ok (.iload 8, 2) := by decide +kernel
theorem dX8_longest_88 : decode cX8_longest 88 = .ok (.iload 6, 2) := by decide +kernel
theorem dX8_longest_90 : decode cX8_longest 90 = .ok (.if_icmp .gt 6, 3) := by decide +kernel
theorem dX8_longest_93 : decode cX8_longest 93 = .ok (.goto 11, 3) := by decide +kernel
theorem dX8_longest_96 : decode cX8_longest 96 = .ok (.iload 7, 2) := by decide +kernel
theorem dX8_longest_98 : decode cX8_longest 98 = .ok (.istore 5, 2) := by decide +kernel
theorem dX8_longest_100 : decode cX8_longest 100 = .ok (.iload 8, 2) := by decide +kernel
theorem dX8_longest_102 : decode cX8_longest 102 = .ok (.istore 6, 2) := by decide +kernel
theorem dX8_longest_104 : decode cX8_longest 104 = .ok (.iinc 7 1, 3) := by decide +kernel
theorem dX8_longest_107 : decode cX8_longest 107 = .ok (.goto (-59), 3) := by decide +kernel
theorem dX8_longest_110 : decode cX8_longest 110 = .ok (.iload 5, 2) := by decide +kernel
theorem dX8_longest_112 : decode cX8_longest 112 = .ok (.ireturn, 1) := by decide +kernel
theorem dX8_bestFor_0 : decode cX8_bestFor 0 = .ok (.aload_n 0, 1) := by decide +kernel
theorem dX8_bestFor_1 : decode cX8_bestFor 1 = .ok (.iload_n 1, 1) := by decide +kernel
theorem dX8_bestFor_2 : decode cX8_bestFor 2 = .ok (.invokevirtual 129, 3) := by decide +kernel
theorem dX8_bestFor_5 : decode cX8_bestFor 5 = .ok (.ifCond .ne 9, 3) := by decide +kernel
theorem dX8_bestFor_8 : decode cX8_bestFor 8 = .ok (.aload_n 0, 1) := by decide +kernel
theorem dX8_bestFor_9 : decode cX8_bestFor 9 = .ok (.iconst (-1), 1) := by decide +kernel
theorem dX8_bestFor_10 : decode cX8_bestFor 10 = .ok (.invokevirtual 93, 3) := by decide +kernel
theorem dX8_bestFor_13 : decode cX8_bestFor 13 = .ok (.ireturn, 1) := by decide +kernel
theorem dX8_bestFor_14 : decode cX8_bestFor 14 = .ok (.iload_n 3, 1) := by decide +kernel
theorem dX8_bestFor_15 : decode cX8_bestFor 15 = .ok (.iconst 0, 1) := by decide +kernel
theorem dX8_bestFor_16 : decode cX8_bestFor 16 = .ok (.iconst 1, 1) := by decide +kernel
theorem dX8_bestFor_17 : decode cX8_bestFor 17 = .ok (.invokestatic 106, 3) := by decide +kernel
theorem dX8_bestFor_20 : decode cX8_bestFor 20 = .ok (.ifCond .ne 10, 3) := by decide +kernel
theorem dX8_bestFor_23 : decode cX8_bestFor 23 = .ok (.aload_n 0, 1) := by decide +kernel
theorem dX8_bestFor_24 : decode cX8_bestFor 24 = .ok (.bipush (-2), 2) := by decide +kernel
theorem dX8_bestFor_26 : decode cX8_bestFor 26 = .ok (.invokevirtual 93, 3) := by decide +kernel
theorem dX8_bestFor_29 : decode cX8_bestFor 29 = .ok (.ireturn, 1) := by decide +kernel
theorem dX8_bestFor_30 : decode cX8_bestFor 30 = .ok (.iload_n 2, 1) := by decide +kernel
theorem dX8_bestFor_31 : decode cX8_bestFor 31 = .ok (.iconst 0, 1) := by decide +kernel
theorem dX8_bestFor_32 : decode cX8_bestFor 32 = .ok (.sipush 9000, 3) := by decide +kernel
theorem dX8_bestFor_35 : decode cX8_bestFor 35 = .ok (.invokestatic 86, 3) := by decide +kernel
theorem dX8_bestFor_38 : decode cX8_bestFor 38 = .ok (.istore 4, 2) := by decide +kernel
theorem dX8_bestFor_40 : decode cX8_bestFor 40 = .ok (.iload 4, 2) := by decide +kernel
theorem dX8_bestFor_42 : decode cX8_bestFor 42 = .ok (.ifCond .eq 10, 3) := by decide +kernel
theorem dX8_bestFor_45 : decode cX8_bestFor 45 = .ok (.aload_n 0, 1) := by decide +kernel
theorem dX8_bestFor_46 : decode cX8_bestFor 46 = .ok (.iload 4, 2) := by decide +kernel
theorem dX8_bestFor_48 : decode cX8_bestFor 48 = .ok (.invokevirtual 93, 3) := by decide +kernel
theorem dX8_bestFor_51 : decode cX8_bestFor 51 = .ok (.ireturn, 1) := by decide +kernel
theorem dX8_bestFor_52 : decode cX8_bestFor 52 = .ok (.iconst 0, 1) := by decide +kernel
theorem dX8_bestFor_53 : decode cX8_bestFor 53 = .ok (.istore 5, 2) := by decide +kernel
theorem dX8_bestFor_55 : decode cX8_bestFor 55 = .ok (.iconst (-1), 1) := by decide +kernel
theorem dX8_bestFor_56 : decode cX8_bestFor 56 = .ok (.istore 6, 2) := by decide +kernel
theorem dX8_bestFor_58 : decode cX8_bestFor 58 = .ok (.aload_n 0, 1) := by decide +kernel
theorem dX8_bestFor_59 : decode cX8_bestFor 59 = .ok (.getfield 22, 3) := by decide +kernel
theorem dX8_bestFor_62 : decode cX8_bestFor 62 = .ok (.iload_n 1, 1) := by decide +kernel
theorem dX8_bestFor_63 : decode cX8_bestFor 63 = .ok (.iaload, 1) := by decide +kernel
theorem dX8_bestFor_64 : decode cX8_bestFor 64 = .ok (.istore 7, 2) := by decide +kernel
theorem dX8_bestFor_66 : decode cX8_bestFor 66 = .ok (.iconst 0, 1) := by decide +kernel
theorem dX8_bestFor_67 : decode cX8_bestFor 67 = .ok (.istore 8, 2) := by decide +kernel
theorem dX8_bestFor_69 : decode cX8_bestFor 69 = .ok (.iload 8, 2) := by decide +kernel
theorem dX8_bestFor_71 : decode cX8_bestFor 71 = .ok (.iload_n 3, 1) := by decide +kernel
theorem dX8_bestFor_72 : decode cX8_bestFor 72 = .ok (.ifCond .ne 7, 3) := by decide +kernel
theorem dX8_bestFor_75 : decode cX8_bestFor 75 = .ok (.iconst 4, 1) := by decide +kernel
theorem dX8_bestFor_76 : decode cX8_bestFor 76 = .ok (.goto 5, 3) := by decide +kernel
theorem dX8_bestFor_79 : decode cX8_bestFor 79 = .ok (.bipush 10, 2) := by decide +kernel
theorem dX8_bestFor_81 : decode cX8_bestFor 81 = .ok (.if_icmp .ge 58, 3) := by decide +kernel
theorem dX8_bestFor_84 : decode cX8_bestFor 84 = .ok (.iload_n 3, 1) := by decide +kernel
theorem dX8_bestFor_85 : decode cX8_bestFor 85 = .ok (.iconst 1, 1) := by decide +kernel
theorem dX8_bestFor_86 : decode cX8_bestFor 86 = .ok (.if_icmp .ne 11, 3) := by decide +kernel
theorem dX8_bestFor_89 : decode cX8_bestFor 89 = .ok (.aload_n 0, 1) := by decide +kernel
theorem dX8_bestFor_90 : decode cX8_bestFor 90 = .ok (.getfield 22, 3) := by decide +kernel
theorem dX8_bestFor_93 : decode cX8_bestFor 93 = .ok (.iload_n 1, 1) := by decide +kernel
theorem dX8_bestFor_94 : decode cX8_bestFor 94 = .ok (.iload 8, 2) := by decide +kernel
theorem dX8_bestFor_96 : decode cX8_bestFor 96 = .ok (.iastore, 1) := by decide +kernel
theorem dX8_bestFor_97 : decode cX8_bestFor 97 = .ok (.aload_n 0, 1) := by decide +kernel
theorem dX8_bestFor_98 : decode cX8_bestFor 98 = .ok (.iload_n 1, 1) := by decide +kernel
theorem dX8_bestFor_99 : decode cX8_bestFor 99 = .ok (.iload_n 2, 1) := by decide +kernel
theorem dX8_bestFor_100 : decode cX8_bestFor 100 = .ok (.iload_n 3, 1) := by decide +kernel
theorem dX8_bestFor_101 : decode cX8_bestFor 101 = .ok (.ifCond .ne 8, 3) := by decide +kernel
theorem dX8_bestFor_104 : decode cX8_bestFor 104 = .ok (.iload 8, 2) := by decide +kernel
theorem dX8_bestFor_106 : decode cX8_bestFor 106 = .ok (.goto 4, 3) := by decide +kernel
theorem dX8_bestFor_109 : decode cX8_bestFor 109 = .ok (.iconst 0, 1) := by decide +kernel
theorem dX8_bestFor_110 : decode cX8_bestFor 110 = .ok (.invokevirtual 272, 3) := by decide +kernel
theorem dX8_bestFor_113 : decode cX8_bestFor 113 = .ok (.istore 9, 2) := by decide +kernel
theorem dX8_bestFor_115 : decode cX8_bestFor 115 = .ok (.iload 9, 2) := by decide +kernel
theorem dX8_bestFor_117 : decode cX8_bestFor 117 = .ok (.iload 6, 2) := by decide +kernel
theorem dX8_bestFor_119 : decode cX8_bestFor 119 = .ok (.if_icmp .gt 6, 3) := by decide +kernel
theorem dX8_bestFor_122 : decode cX8_bestFor 122 = .ok (.goto 11, 3) := by decide +kernel
theorem dX8_bestFor_125 : decode cX8_bestFor 125 = .ok (.iload 9, 2) := by decide +kernel
theorem dX8_bestFor_127 : decode cX8_bestFor 127 = .ok (.istore 6, 2) := by decide +kernel
theorem dX8_bestFor_129 : decode cX8_bestFor 129 = .ok (.iload 8, 2) := by decide +kernel
theorem dX8_bestFor_131 : decode cX8_bestFor 131 = .ok (.istore 5, 2) := by decide +kernel
theorem dX8_bestFor_133 : decode cX8_bestFor 133 = .ok (.iinc 8 1, 3) := by decide +kernel
theorem dX8_bestFor_136 : decode cX8_bestFor 136 = .ok (.goto (-67), 3) := by decide +kernel
theorem dX8_bestFor_139 : decode cX8_bestFor 139 = .ok (.aload_n 0, 1) := by decide +kernel
theorem dX8_bestFor_140 : decode cX8_bestFor 140 = .ok (.getfield 22, 3) := by decide +kernel
theorem dX8_bestFor_143 : decode cX8_bestFor 143 = .ok (.iload_n 1, 1) := by decide +kernel
theorem dX8_bestFor_144 : decode cX8_bestFor 144 = .ok (.iload 7, 2) := by decide +kernel
theorem dX8_bestFor_146 : decode cX8_bestFor 146 = .ok (.iastore, 1) := by decide +kernel
theorem dX8_bestFor_147 : decode cX8_bestFor 147 = .ok (.iload 5, 2) := by decide +kernel
theorem dX8_bestFor_149 : decode cX8_bestFor 149 = .ok (.ireturn, 1) := by decide +kernel
theorem dX8_heardMany_0 : decode cX8_heardMany 0 = .ok (.iconst 0, 1) := by decide +kernel
theorem dX8_heardMany_1 : decode cX8_heardMany 1 = .ok (.istore_n 1, 1) := by decide +kernel
theorem dX8_heardMany_2 : decode cX8_heardMany 2 = .ok (.iconst 0, 1) := by decide +kernel
theorem dX8_heardMany_3 : decode cX8_heardMany 3 = .ok (.istore_n 2, 1) := by decide +kernel
theorem dX8_heardMany_4 : decode cX8_heardMany 4 = .ok (.iload_n 2, 1) := by decide +kernel
theorem dX8_heardMany_5 : decode cX8_heardMany 5 = .ok (.aload_n 0, 1) := by decide +kernel
theorem dX8_heardMany_6 : decode cX8_heardMany 6 = .ok (.getfield 282, 3) := by decide +kernel
theorem dX8_heardMany_9 : decode cX8_heardMany 9 = .ok (.if_icmp .ge 26, 3) := by decide +kernel
theorem dX8_heardMany_12 : decode cX8_heardMany 12 = .ok (.iload_n 1, 1) := by decide +kernel
theorem dX8_heardMany_13 : decode cX8_heardMany 13 = .ok (.aload_n 0, 1) := by decide +kernel
theorem dX8_heardMany_14 : decode cX8_heardMany 14 = .ok (.getfield 74, 3) := by decide +kernel
theorem dX8_heardMany_17 : decode cX8_heardMany 17 = .ok (.iload_n 2, 1) := by decide +kernel
theorem dX8_heardMany_18 : decode cX8_heardMany 18 = .ok (.iaload, 1) := by decide +kernel
theorem dX8_heardMany_19 : decode cX8_heardMany 19 = .ok (.ifCond .lt 7, 3) := by decide +kernel
theorem dX8_heardMany_22 : decode cX8_heardMany 22 = .ok (.iconst 1, 1) := by decide +kernel
theorem dX8_heardMany_23 : decode cX8_heardMany 23 = .ok (.goto 4, 3) := by decide +kernel
theorem dX8_heardMany_26 : decode cX8_heardMany 26 = .ok (.iconst 0, 1) := by decide +kernel
theorem dX8_heardMany_27 : decode cX8_heardMany 27 = .ok (.iadd, 1) := by decide +kernel
theorem dX8_heardMany_28 : decode cX8_heardMany 28 = .ok (.istore_n 1, 1) := by decide +kernel
theorem dX8_heardMany_29 : decode cX8_heardMany 29 = .ok (.iinc 2 1, 3) := by decide +kernel
theorem dX8_heardMany_32 : decode cX8_heardMany 32 = .ok (.goto (-28), 3) := by decide +kernel
theorem dX8_heardMany_35 : decode cX8_heardMany 35 = .ok (.iload_n 1, 1) := by decide +kernel
theorem dX8_heardMany_36 : decode cX8_heardMany 36 = .ok (.ireturn, 1) := by decide +kernel
theorem dX8_ear_0 : decode cX8_ear 0 = .ok (.iload_n 1, 1) := by decide +kernel
theorem dX8_ear_1 : decode cX8_ear 1 = .ok (.iconst 0, 1) := by decide +kernel
theorem dX8_ear_2 : decode cX8_ear 2 = .ok (.iconst 2, 1) := by decide +kernel
theorem dX8_ear_3 : decode cX8_ear 3 = .ok (.invokestatic 106, 3) := by decide +kernel
theorem dX8_ear_6 : decode cX8_ear 6 = .ok (.ifCond .ne 10, 3) := by decide +kernel
theorem dX8_ear_9 : decode cX8_ear 9 = .ok (.aload_n 0, 1) := by decide +kernel
theorem dX8_ear_10 : decode cX8_ear 10 = .ok (.bipush (-2), 2) := by decide +kernel
theorem dX8_ear_12 : decode cX8_ear 12 = .ok (.invokevirtual 93, 3) := by decide +kernel
theorem dX8_ear_15 : decode cX8_ear 15 = .ok (.ireturn, 1) := by decide +kernel
theorem dX8_ear_16 : decode cX8_ear 16 = .ok (.aload_n 0, 1) := by decide +kernel
theorem dX8_ear_17 : decode cX8_ear 17 = .ok (.getfield 253, 3) := by decide +kernel
theorem dX8_ear_20 : decode cX8_ear 20 = .ok (.ifCond .ne 10, 3) := by decide +kernel
theorem dX8_ear_23 : decode cX8_ear 23 = .ok (.aload_n 0, 1) := by decide +kernel
theorem dX8_ear_24 : decode cX8_ear 24 = .ok (.bipush (-3), 2) := by decide +kernel
theorem dX8_ear_26 : decode cX8_ear 26 = .ok (.invokevirtual 93, 3) := by decide +kernel
theorem dX8_ear_29 : decode cX8_ear 29 = .ok (.ireturn, 1) := by decide +kernel
theorem dX8_ear_30 : decode cX8_ear 30 = .ok (.bipush (-9), 2) := by decide +kernel
theorem dX8_ear_32 : decode cX8_ear 32 = .ok (.istore_n 2, 1) := by decide +kernel
theorem dX8_ear_33 : decode cX8_ear 33 = .ok (.iconst 0, 1) := by decide +kernel
theorem dX8_ear_34 : decode cX8_ear 34 = .ok (.istore_n 3, 1) := by decide +kernel
theorem dX8_ear_35 : decode cX8_ear 35 = .ok (.iconst 0, 1) := by decide +kernel
theorem dX8_ear_36 : decode cX8_ear 36 = .ok (.istore 4, 2) := by decide +kernel
theorem dX8_ear_38 : decode cX8_ear 38 = .ok (.iload 4, 2) := by decide +kernel
theorem dX8_ear_40 : decode cX8_ear 40 = .ok (.aload_n 0, 1) := by decide +kernel
theorem dX8_ear_41 : decode cX8_ear 41 = .ok (.getfield 123, 3) := by decide +kernel
theorem dX8_ear_44 : decode cX8_ear 44 = .ok (.if_icmp .ge 53, 3) := by decide +kernel
theorem dX8_ear_47 : decode cX8_ear 47 = .ok (.aload_n 0, 1) := by decide +kernel
theorem dX8_ear_48 : decode cX8_ear 48 = .ok (.iload 4, 2) := by decide +kernel
theorem dX8_ear_50 : decode cX8_ear 50 = .ok (.aload_n 0, 1) := by decide +kernel
theorem dX8_ear_51 : decode cX8_ear 51 = .ok (.getfield 259, 3) := by decide +kernel
theorem dX8_ear_54 : decode cX8_ear 54 = .ok (.aload_n 0, 1) := by decide +kernel
theorem dX8_ear_55 : decode cX8_ear 55 = .ok (.getfield 256, 3) := by decide +kernel
theorem dX8_ear_58 : decode cX8_ear 58 = .ok (.aload_n 0, 1) := by decide +kernel
theorem dX8_ear_59 : decode cX8_ear 59 = .ok (.invokevirtual 231, 3) := by decide +kernel
theorem dX8_ear_62 : decode cX8_ear 62 = .ok (.invokevirtual 234, 3) := by decide +kernel
theorem dX8_ear_65 : decode cX8_ear 65 = .ok (.aload_n 0, 1) := by decide +kernel
theorem dX8_ear_66 : decode cX8_ear 66 = .ok (.iconst 0, 1) := by decide +kernel
theorem dX8_ear_67 : decode cX8_ear 67 = .ok (.invokevirtual 288, 3) := by decide +kernel
theorem dX8_ear_70 : decode cX8_ear 70 = .ok (.istore 5, 2) := by decide +kernel
theorem dX8_ear_72 : decode cX8_ear 72 = .ok (.iload_n 2, 1) := by decide +kernel
theorem dX8_ear_73 : decode cX8_ear 73 = .ok (.ifCond .lt 12, 3) := by decide +kernel
theorem dX8_ear_76 : decode cX8_ear 76 = .ok (.iload 5, 2) := by decide +kernel
theorem dX8_ear_78 : decode cX8_ear 78 = .ok (.iload_n 3, 1) := by decide +kernel
theorem dX8_ear_79 : decode cX8_ear 79 = .ok (.if_icmp .lt 6, 3) := by decide +kernel
theorem dX8_ear_82 : decode cX8_ear 82 = .ok (.goto 9, 3) := by decide +kernel
theorem dX8_ear_85 : decode cX8_ear 85 = .ok (.iload 4, 2) := by decide +kernel
theorem dX8_ear_87 : decode cX8_ear 87 = .ok (.istore_n 2, 1) := by decide +kernel
theorem dX8_ear_88 : decode cX8_ear 88 = .ok (.iload 5, 2) := by decide +kernel
theorem dX8_ear_90 : decode cX8_ear 90 = .ok (.istore_n 3, 1) := by decide +kernel
theorem dX8_ear_91 : decode cX8_ear 91 = .ok (.iinc 4 1, 3) := by decide +kernel
theorem dX8_ear_94 : decode cX8_ear 94 = .ok (.goto (-56), 3) := by decide +kernel
theorem dX8_ear_97 : decode cX8_ear 97 = .ok (.iload_n 1, 1) := by decide +kernel
theorem dX8_ear_98 : decode cX8_ear 98 = .ok (.ifCond .ne 7, 3) := by decide +kernel
theorem dX8_ear_101 : decode cX8_ear 101 = .ok (.iload_n 2, 1) := by decide +kernel
theorem dX8_ear_102 : decode cX8_ear 102 = .ok (.goto 30, 3) := by decide +kernel
theorem dX8_ear_105 : decode cX8_ear 105 = .ok (.iload_n 1, 1) := by decide +kernel
theorem dX8_ear_106 : decode cX8_ear 106 = .ok (.iconst 2, 1) := by decide +kernel
theorem dX8_ear_107 : decode cX8_ear 107 = .ok (.if_icmp .ne 7, 3) := by decide +kernel
theorem dX8_ear_110 : decode cX8_ear 110 = .ok (.iload_n 3, 1) := by decide +kernel
theorem dX8_ear_111 : decode cX8_ear 111 = .ok (.goto 21, 3) := by decide +kernel
theorem dX8_ear_114 : decode cX8_ear 114 = .ok (.iload_n 3, 1) := by decide +kernel
theorem dX8_ear_115 : decode cX8_ear 115 = .ok (.aload_n 0, 1) := by decide +kernel
theorem dX8_ear_116 : decode cX8_ear 116 = .ok (.getfield 285, 3) := by decide +kernel
theorem dX8_ear_119 : decode cX8_ear 119 = .ok (.aload_n 0, 1) := by decide +kernel
theorem dX8_ear_120 : decode cX8_ear 120 = .ok (.invokevirtual 304, 3) := by decide +kernel
theorem dX8_ear_123 : decode cX8_ear 123 = .ok (.imul, 1) := by decide +kernel
theorem dX8_ear_124 : decode cX8_ear 124 = .ok (.if_icmp .le 7, 3) := by decide +kernel
theorem dX8_ear_127 : decode cX8_ear 127 = .ok (.iconst 1, 1) := by decide +kernel
theorem dX8_ear_128 : decode cX8_ear 128 = .ok (.goto 4, 3) := by decide +kernel
theorem dX8_ear_131 : decode cX8_ear 131 = .ok (.iconst 0, 1) := by decide +kernel
theorem dX8_ear_132 : decode cX8_ear 132 = .ok (.ireturn, 1) := by decide +kernel
theorem dX8_stagger_0 : decode cX8_stagger 0 = .ok (.aload_n 0, 1) := by decide +kernel
theorem dX8_stagger_1 : decode cX8_stagger 1 = .ok (.iload_n 1, 1) := by decide +kernel
theorem dX8_stagger_2 : decode cX8_stagger 2 = .ok (.invokevirtual 171, 3) := by decide +kernel
theorem dX8_stagger_5 : decode cX8_stagger 5 = .ok (.ifCond .ne 9, 3) := by decide +kernel
theorem dX8_stagger_8 : decode cX8_stagger 8 = .ok (.aload_n 0, 1) := by decide +kernel
theorem dX8_stagger_9 : decode cX8_stagger 9 = .ok (.iconst (-1), 1) := by decide +kernel
theorem dX8_stagger_10 : decode cX8_stagger 10 = .ok (.invokevirtual 93, 3) := by decide +kernel
theorem dX8_stagger_13 : decode cX8_stagger 13 = .ok (.ireturn, 1) := by decide +kernel
theorem dX8_stagger_14 : decode cX8_stagger 14 = .ok (.aload_n 0, 1) := by decide +kernel
theorem dX8_stagger_15 : decode cX8_stagger 15 = .ok (.getfield 253, 3) := by decide +kernel
theorem dX8_stagger_18 : decode cX8_stagger 18 = .ok (.ifCond .ne 10, 3) := by decide +kernel
theorem dX8_stagger_21 : decode cX8_stagger 21 = .ok (.aload_n 0, 1) := by decide +kernel
theorem dX8_stagger_22 : decode cX8_stagger 22 = .ok (.bipush (-3), 2) := by decide +kernel
theorem dX8_stagger_24 : decode cX8_stagger 24 = .ok (.invokevirtual 93, 3) := by decide +kernel
theorem dX8_stagger_27 : decode cX8_stagger 27 = .ok (.ireturn, 1) := by decide +kernel
theorem dX8_stagger_28 : decode cX8_stagger 28 = .ok (.iconst 0, 1) := by decide +kernel
theorem dX8_stagger_29 : decode cX8_stagger 29 = .ok (.istore_n 2, 1) := by decide +kernel
theorem dX8_stagger_30 : decode cX8_stagger 30 = .ok (.iload_n 2, 1) := by decide +kernel
theorem dX8_stagger_31 : decode cX8_stagger 31 = .ok (.sipush 1000, 3) := by decide +kernel
theorem dX8_stagger_34 : decode cX8_stagger 34 = .ok (.if_icmp .ge 35, 3) := by decide +kernel
theorem dX8_stagger_37 : decode cX8_stagger 37 = .ok (.aload_n 0, 1) := by decide +kernel
theorem dX8_stagger_38 : decode cX8_stagger 38 = .ok (.invokevirtual 275, 3) := by decide +kernel
theorem dX8_stagger_41 : decode cX8_stagger 41 = .ok (.aload_n 0, 1) := by decide +kernel
theorem dX8_stagger_42 : decode cX8_stagger 42 = .ok (.iload_n 1, 1) := by decide +kernel
theorem dX8_stagger_43 : decode cX8_stagger 43 = .ok (.putfield 209, 3) := by decide +kernel
theorem dX8_stagger_46 : decode cX8_stagger 46 = .ok (.aload_n 0, 1) := by decide +kernel
theorem dX8_stagger_47 : decode cX8_stagger 47 = .ok (.iload_n 2, 1) := by decide +kernel
theorem dX8_stagger_48 : decode cX8_stagger 48 = .ok (.putfield 216, 3) := by decide +kernel
theorem dX8_stagger_51 : decode cX8_stagger 51 = .ok (.aload_n 0, 1) := by decide +kernel
theorem dX8_stagger_52 : decode cX8_stagger 52 = .ok (.iconst 1, 1) := by decide +kernel
theorem dX8_stagger_53 : decode cX8_stagger 53 = .ok (.invokevirtual 288, 3) := by decide +kernel
theorem dX8_stagger_56 : decode cX8_stagger 56 = .ok (.bipush (-9), 2) := by decide +kernel
theorem dX8_stagger_58 : decode cX8_stagger 58 = .ok (.if_icmp .ne 5, 3) := by decide +kernel
theorem dX8_stagger_61 : decode cX8_stagger 61 = .ok (.iload_n 2, 1) := by decide +kernel
theorem dX8_stagger_62 : decode cX8_stagger 62 = .ok (.ireturn, 1) := by decide +kernel
theorem dX8_stagger_63 : decode cX8_stagger 63 = .ok (.iinc 2 10, 3) := by decide +kernel
theorem dX8_stagger_66 : decode cX8_stagger 66 = .ok (.goto (-36), 3) := by decide +kernel
theorem dX8_stagger_69 : decode cX8_stagger 69 = .ok (.bipush (-9), 2) := by decide +kernel
theorem dX8_stagger_71 : decode cX8_stagger 71 = .ok (.ireturn, 1) := by decide +kernel
theorem dX8_trust_0 : decode cX8_trust 0 = .ok (.aload_n 0, 1) := by decide +kernel
theorem dX8_trust_1 : decode cX8_trust 1 = .ok (.getfield 253, 3) := by decide +kernel
theorem dX8_trust_4 : decode cX8_trust 4 = .ok (.ifCond .ne 10, 3) := by decide +kernel
theorem dX8_trust_7 : decode cX8_trust 7 = .ok (.aload_n 0, 1) := by decide +kernel
theorem dX8_trust_8 : decode cX8_trust 8 = .ok (.bipush (-3), 2) := by decide +kernel
theorem dX8_trust_10 : decode cX8_trust 10 = .ok (.invokevirtual 93, 3) := by decide +kernel
theorem dX8_trust_13 : decode cX8_trust 13 = .ok (.ireturn, 1) := by decide +kernel
theorem dX8_trust_14 : decode cX8_trust 14 = .ok (.iload_n 1, 1) := by decide +kernel
theorem dX8_trust_15 : decode cX8_trust 15 = .ok (.iconst 0, 1) := by decide +kernel
theorem dX8_trust_16 : decode cX8_trust 16 = .ok (.sipush 9999, 3) := by decide +kernel
theorem dX8_trust_19 : decode cX8_trust 19 = .ok (.invokestatic 86, 3) := by decide +kernel
theorem dX8_trust_22 : decode cX8_trust 22 = .ok (.istore_n 2, 1) := by decide +kernel
theorem dX8_trust_23 : decode cX8_trust 23 = .ok (.iload_n 2, 1) := by decide +kernel
theorem dX8_trust_24 : decode cX8_trust 24 = .ok (.ifCond .eq 9, 3) := by decide +kernel
theorem dX8_trust_27 : decode cX8_trust 27 = .ok (.aload_n 0, 1) := by decide +kernel
theorem dX8_trust_28 : decode cX8_trust 28 = .ok (.iload_n 2, 1) := by decide +kernel
theorem dX8_trust_29 : decode cX8_trust 29 = .ok (.invokevirtual 93, 3) := by decide +kernel
theorem dX8_trust_32 : decode cX8_trust 32 = .ok (.ireturn, 1) := by decide +kernel
theorem dX8_trust_33 : decode cX8_trust 33 = .ok (.aload_n 0, 1) := by decide +kernel
theorem dX8_trust_34 : decode cX8_trust 34 = .ok (.invokevirtual 275, 3) := by decide +kernel
theorem dX8_trust_37 : decode cX8_trust 37 = .ok (.aload_n 0, 1) := by decide +kernel
theorem dX8_trust_38 : decode cX8_trust 38 = .ok (.iconst 1, 1) := by decide +kernel
theorem dX8_trust_39 : decode cX8_trust 39 = .ok (.invokevirtual 238, 3) := by decide +kernel
theorem dX8_trust_42 : decode cX8_trust 42 = .ok (.istore_n 3, 1) := by decide +kernel
theorem dX8_trust_43 : decode cX8_trust 43 = .ok (.bipush 10, 2) := by decide +kernel
theorem dX8_trust_45 : decode cX8_trust 45 = .ok (.istore 4, 2) := by decide +kernel
theorem dX8_trust_47 : decode cX8_trust 47 = .ok (.iload 4, 2) := by decide +kernel
theorem dX8_trust_49 : decode cX8_trust 49 = .ok (.iconst 1, 1) := by decide +kernel
theorem dX8_trust_50 : decode cX8_trust 50 = .ok (.if_icmp .le 60, 3) := by decide +kernel
theorem dX8_trust_53 : decode cX8_trust 53 = .ok (.aload_n 0, 1) := by decide +kernel
theorem dX8_trust_54 : decode cX8_trust 54 = .ok (.invokevirtual 275, 3) := by decide +kernel
theorem dX8_trust_57 : decode cX8_trust 57 = .ok (.aload_n 0, 1) := by decide +kernel
theorem dX8_trust_58 : decode cX8_trust 58 = .ok (.iload 4, 2) := by decide +kernel
theorem dX8_trust_60 : decode cX8_trust 60 = .ok (.invokevirtual 238, 3) := by decide +kernel
theorem dX8_trust_63 : decode cX8_trust 63 = .ok (.iload_n 3, 1) := by decide +kernel
theorem dX8_trust_64 : decode cX8_trust 64 = .ok (.isub, 1) := by decide +kernel
theorem dX8_trust_65 : decode cX8_trust 65 = .ok (.istore 5, 2) := by decide +kernel
theorem dX8_trust_67 : decode cX8_trust 67 = .ok (.iload 5, 2) := by decide +kernel
theorem dX8_trust_69 : decode cX8_trust 69 = .ok (.iload_n 1, 1) := by decide +kernel
theorem dX8_trust_70 : decode cX8_trust 70 = .ok (.if_icmp .gt 13, 3) := by decide +kernel
theorem dX8_trust_73 : decode cX8_trust 73 = .ok (.iload 5, 2) := by decide +kernel
theorem dX8_trust_75 : decode cX8_trust 75 = .ok (.iload_n 1, 1) := by decide +kernel
theorem dX8_trust_76 : decode cX8_trust 76 = .ok (.ineg, 1) := by decide +kernel
theorem dX8_trust_77 : decode cX8_trust 77 = .ok (.if_icmp .lt 6, 3) := by decide +kernel
theorem dX8_trust_80 : decode cX8_trust 80 = .ok (.iload 4, 2) := by decide +kernel
theorem dX8_trust_82 : decode cX8_trust 82 = .ok (.ireturn, 1) := by decide +kernel
theorem dX8_trust_83 : decode cX8_trust 83 = .ok (.iload 4, 2) := by decide +kernel
theorem dX8_trust_85 : decode cX8_trust 85 = .ok (.bipush 10, 2) := by decide +kernel
theorem dX8_trust_87 : decode cX8_trust 87 = .ok (.if_icmp .ne 7, 3) := by decide +kernel
theorem dX8_trust_90 : decode cX8_trust 90 = .ok (.iconst 5, 1) := by decide +kernel
theorem dX8_trust_91 : decode cX8_trust 91 = .ok (.goto 14, 3) := by decide +kernel
theorem dX8_trust_94 : decode cX8_trust 94 = .ok (.iload 4, 2) := by decide +kernel
theorem dX8_trust_96 : decode cX8_trust 96 = .ok (.iconst 5, 1) := by decide +kernel
theorem dX8_trust_97 : decode cX8_trust 97 = .ok (.if_icmp .ne 7, 3) := by decide +kernel
theorem dX8_trust_100 : decode cX8_trust 100 = .ok (.iconst 2, 1) := by decide +kernel
theorem dX8_trust_101 : decode cX8_trust 101 = .ok (.goto 4, 3) := by decide +kernel
theorem dX8_trust_104 : decode cX8_trust 104 = .ok (.iconst 1, 1) := by decide +kernel
theorem dX8_trust_105 : decode cX8_trust 105 = .ok (.istore 4, 2) := by decide +kernel
theorem dX8_trust_107 : decode cX8_trust 107 = .ok (.goto (-60), 3) := by decide +kernel
theorem dX8_trust_110 : decode cX8_trust 110 = .ok (.iconst 1, 1) := by decide +kernel
theorem dX8_trust_111 : decode cX8_trust 111 = .ok (.ireturn, 1) := by decide +kernel
theorem dX8_leg_0 : decode cX8_leg 0 = .ok (.iload_n 1, 1) := by decide +kernel
theorem dX8_leg_1 : decode cX8_leg 1 = .ok (.invokestatic 174, 3) := by decide +kernel
theorem dX8_leg_4 : decode cX8_leg 4 = .ok (.ifCond .ne 9, 3) := by decide +kernel
theorem dX8_leg_7 : decode cX8_leg 7 = .ok (.aload_n 0, 1) := by decide +kernel
theorem dX8_leg_8 : decode cX8_leg 8 = .ok (.iconst (-1), 1) := by decide +kernel
theorem dX8_leg_9 : decode cX8_leg 9 = .ok (.invokevirtual 93, 3) := by decide +kernel
theorem dX8_leg_12 : decode cX8_leg 12 = .ok (.ireturn, 1) := by decide +kernel
theorem dX8_leg_13 : decode cX8_leg 13 = .ok (.iload_n 2, 1) := by decide +kernel
theorem dX8_leg_14 : decode cX8_leg 14 = .ok (.iconst 1, 1) := by decide +kernel
theorem dX8_leg_15 : decode cX8_leg 15 = .ok (.sipush 999, 3) := by decide +kernel
theorem dX8_leg_18 : decode cX8_leg 18 = .ok (.invokestatic 86, 3) := by decide +kernel
theorem dX8_leg_21 : decode cX8_leg 21 = .ok (.istore_n 3, 1) := by decide +kernel
theorem dX8_leg_22 : decode cX8_leg 22 = .ok (.iload_n 3, 1) := by decide +kernel
theorem dX8_leg_23 : decode cX8_leg 23 = .ok (.ifCond .ne 14, 3) := by decide +kernel
theorem dX8_leg_26 : decode cX8_leg 26 = .ok (.aload_n 0, 1) := by decide +kernel
theorem dX8_leg_27 : decode cX8_leg 27 = .ok (.getfield 307, 3) := by decide +kernel
theorem dX8_leg_30 : decode cX8_leg 30 = .ok (.iconst 4, 1) := by decide +kernel
theorem dX8_leg_31 : decode cX8_leg 31 = .ok (.if_icmp .ne 6, 3) := by decide +kernel
theorem dX8_leg_34 : decode cX8_leg 34 = .ok (.bipush (-6), 2) := by decide +kernel
theorem dX8_leg_36 : decode cX8_leg 36 = .ok (.istore_n 3, 1) := by decide +kernel
theorem dX8_leg_37 : decode cX8_leg 37 = .ok (.iload_n 3, 1) := by decide +kernel
theorem dX8_leg_38 : decode cX8_leg 38 = .ok (.ifCond .eq 9, 3) := by decide +kernel
theorem dX8_leg_41 : decode cX8_leg 41 = .ok (.aload_n 0, 1) := by decide +kernel
theorem dX8_leg_42 : decode cX8_leg 42 = .ok (.iload_n 3, 1) := by decide +kernel
theorem dX8_leg_43 : decode cX8_leg 43 = .ok (.invokevirtual 93, 3) := by decide +kernel
theorem dX8_leg_46 : decode cX8_leg 46 = .ok (.ireturn, 1) := by decide +kernel
theorem dX8_leg_47 : decode cX8_leg 47 = .ok (.aload_n 0, 1) := by decide +kernel
theorem dX8_leg_48 : decode cX8_leg 48 = .ok (.getfield 77, 3) := by decide +kernel
theorem dX8_leg_51 : decode cX8_leg 51 = .ok (.aload_n 0, 1) := by decide +kernel
theorem dX8_leg_52 : decode cX8_leg 52 = .ok (.getfield 307, 3) := by decide +kernel
theorem dX8_leg_55 : decode cX8_leg 55 = .ok (.iload_n 1, 1) := by decide +kernel
theorem dX8_leg_56 : decode cX8_leg 56 = .ok (.iastore, 1) := by decide +kernel
theorem dX8_leg_57 : decode cX8_leg 57 = .ok (.aload_n 0, 1) := by decide +kernel
theorem dX8_leg_58 : decode cX8_leg 58 = .ok (.getfield 80, 3) := by decide +kernel
theorem dX8_leg_61 : decode cX8_leg 61 = .ok (.aload_n 0, 1) := by decide +kernel
theorem dX8_leg_62 : decode cX8_leg 62 = .ok (.getfield 307, 3) := by decide +kernel
theorem dX8_leg_65 : decode cX8_leg 65 = .ok (.iload_n 2, 1) := by decide +kernel
theorem dX8_leg_66 : decode cX8_leg 66 = .ok (.iastore, 1) := by decide +kernel
theorem dX8_leg_67 : decode cX8_leg 67 = .ok (.aload_n 0, 1) := by decide +kernel
theorem dX8_leg_68 : decode cX8_leg 68 = .ok (.dup, 1) := by decide +kernel
theorem dX8_leg_69 : decode cX8_leg 69 = .ok (.getfield 307, 3) := by decide +kernel
theorem dX8_leg_72 : decode cX8_leg 72 = .ok (.iconst 1, 1) := by decide +kernel
theorem dX8_leg_73 : decode cX8_leg 73 = .ok (.iadd, 1) := by decide +kernel
theorem dX8_leg_74 : decode cX8_leg 74 = .ok (.putfield 307, 3) := by decide +kernel
theorem dX8_leg_77 : decode cX8_leg 77 = .ok (.aload_n 0, 1) := by decide +kernel
theorem dX8_leg_78 : decode cX8_leg 78 = .ok (.getfield 307, 3) := by decide +kernel
theorem dX8_leg_81 : decode cX8_leg 81 = .ok (.ireturn, 1) := by decide +kernel
theorem dX8_legs_0 : decode cX8_legs 0 = .ok (.aload_n 0, 1) := by decide +kernel
theorem dX8_legs_1 : decode cX8_legs 1 = .ok (.iload_n 1, 1) := by decide +kernel
theorem dX8_legs_2 : decode cX8_legs 2 = .ok (.invokevirtual 129, 3) := by decide +kernel
theorem dX8_legs_5 : decode cX8_legs 5 = .ok (.ifCond .ne 9, 3) := by decide +kernel
theorem dX8_legs_8 : decode cX8_legs 8 = .ok (.aload_n 0, 1) := by decide +kernel
theorem dX8_legs_9 : decode cX8_legs 9 = .ok (.iconst (-1), 1) := by decide +kernel
theorem dX8_legs_10 : decode cX8_legs 10 = .ok (.invokevirtual 93, 3) := by decide +kernel
theorem dX8_legs_13 : decode cX8_legs 13 = .ok (.ireturn, 1) := by decide +kernel
theorem dX8_legs_14 : decode cX8_legs 14 = .ok (.iload_n 2, 1) := by decide +kernel
theorem dX8_legs_15 : decode cX8_legs 15 = .ok (.iconst 0, 1) := by decide +kernel
theorem dX8_legs_16 : decode cX8_legs 16 = .ok (.sipush 9000, 3) := by decide +kernel
theorem dX8_legs_19 : decode cX8_legs 19 = .ok (.invokestatic 86, 3) := by decide +kernel
theorem dX8_legs_22 : decode cX8_legs 22 = .ok (.istore_n 3, 1) := by decide +kernel
theorem dX8_legs_23 : decode cX8_legs 23 = .ok (.iload_n 3, 1) := by decide +kernel
theorem dX8_legs_24 : decode cX8_legs 24 = .ok (.ifCond .ne 13, 3) := by decide +kernel
theorem dX8_legs_27 : decode cX8_legs 27 = .ok (.aload_n 0, 1) := by decide +kernel
theorem dX8_legs_28 : decode cX8_legs 28 = .ok (.getfield 307, 3) := by decide +kernel
theorem dX8_legs_31 : decode cX8_legs 31 = .ok (.ifCond .ne 6, 3) := by decide +kernel
theorem dX8_legs_34 : decode cX8_legs 34 = .ok (.bipush (-3), 2) := by decide +kernel
theorem dX8_legs_36 : decode cX8_legs 36 = .ok (.istore_n 3, 1) := by decide +kernel
theorem dX8_legs_37 : decode cX8_legs 37 = .ok (.iload_n 3, 1) := by decide +kernel
theorem dX8_legs_38 : decode cX8_legs 38 = .ok (.ifCond .eq 9, 3) := by decide +kernel
theorem dX8_legs_41 : decode cX8_legs 41 = .ok (.aload_n 0, 1) := by decide +kernel
theorem dX8_legs_42 : decode cX8_legs 42 = .ok (.iload_n 3, 1) := by decide +kernel
theorem dX8_legs_43 : decode cX8_legs 43 = .ok (.invokevirtual 93, 3) := by decide +kernel
theorem dX8_legs_46 : decode cX8_legs 46 = .ok (.ireturn, 1) := by decide +kernel
theorem dX8_legs_47 : decode cX8_legs 47 = .ok (.aload_n 0, 1) := by decide +kernel
theorem dX8_legs_48 : decode cX8_legs 48 = .ok (.iload_n 1, 1) := by decide +kernel
theorem dX8_legs_49 : decode cX8_legs 49 = .ok (.iload_n 2, 1) := by decide +kernel
theorem dX8_legs_50 : decode cX8_legs 50 = .ok (.iconst 0, 1) := by decide +kernel
theorem dX8_legs_51 : decode cX8_legs 51 = .ok (.aload_n 0, 1) := by decide +kernel
theorem dX8_legs_52 : decode cX8_legs 52 = .ok (.invokevirtual 231, 3) := by decide +kernel
theorem dX8_legs_55 : decode cX8_legs 55 = .ok (.invokevirtual 234, 3) := by decide +kernel
theorem dX8_legs_58 : decode cX8_legs 58 = .ok (.aload_n 0, 1) := by decide +kernel
theorem dX8_legs_59 : decode cX8_legs 59 = .ok (.iconst 0, 1) := by decide +kernel
theorem dX8_legs_60 : decode cX8_legs 60 = .ok (.putfield 225, 3) := by decide +kernel
theorem dX8_legs_63 : decode cX8_legs 63 = .ok (.iconst 0, 1) := by decide +kernel
theorem dX8_legs_64 : decode cX8_legs 64 = .ok (.istore 4, 2) := by decide +kernel
theorem dX8_legs_66 : decode cX8_legs 66 = .ok (.aload_n 0, 1) := by decide +kernel
theorem dX8_legs_67 : decode cX8_legs 67 = .ok (.getfield 80, 3) := by decide +kernel
theorem dX8_legs_70 : decode cX8_legs 70 = .ok (.iconst 0, 1) := by decide +kernel
theorem dX8_legs_71 : decode cX8_legs 71 = .ok (.iaload, 1) := by decide +kernel
theorem dX8_legs_72 : decode cX8_legs 72 = .ok (.istore 5, 2) := by decide +kernel
theorem dX8_legs_74 : decode cX8_legs 74 = .ok (.aload_n 0, 1) := by decide +kernel
theorem dX8_legs_75 : decode cX8_legs 75 = .ok (.getfield 225, 3) := by decide +kernel
theorem dX8_legs_78 : decode cX8_legs 78 = .ok (.ifCond .ne 69, 3) := by decide +kernel
theorem dX8_legs_81 : decode cX8_legs 81 = .ok (.iload 5, 2) := by decide +kernel
theorem dX8_legs_83 : decode cX8_legs 83 = .ok (.ifCond .ne 26, 3) := by decide +kernel
theorem dX8_legs_86 : decode cX8_legs 86 = .ok (.iload 4, 2) := by decide +kernel
theorem dX8_legs_88 : decode cX8_legs 88 = .ok (.aload_n 0, 1) := by decide +kernel
theorem dX8_legs_89 : decode cX8_legs 89 = .ok (.getfield 307, 3) := by decide +kernel
theorem dX8_legs_92 : decode cX8_legs 92 = .ok (.iconst 1, 1) := by decide +kernel
theorem dX8_legs_93 : decode cX8_legs 93 = .ok (.isub, 1) := by decide +kernel
theorem dX8_legs_94 : decode cX8_legs 94 = .ok (.if_icmp .ge 15, 3) := by decide +kernel
theorem dX8_legs_97 : decode cX8_legs 97 = .ok (.iinc 4 1, 3) := by decide +kernel
theorem dX8_legs_100 : decode cX8_legs 100 = .ok (.aload_n 0, 1) := by decide +kernel
theorem dX8_legs_101 : decode cX8_legs 101 = .ok (.getfield 80, 3) := by decide +kernel
theorem dX8_legs_104 : decode cX8_legs 104 = .ok (.iload 4, 2) := by decide +kernel
theorem dX8_legs_106 : decode cX8_legs 106 = .ok (.iaload, 1) := by decide +kernel
theorem dX8_legs_107 : decode cX8_legs 107 = .ok (.istore 5, 2) := by decide +kernel
theorem dX8_legs_109 : decode cX8_legs 109 = .ok (.aload_n 0, 1) := by decide +kernel
theorem dX8_legs_110 : decode cX8_legs 110 = .ok (.aload_n 0, 1) := by decide +kernel
theorem dX8_legs_111 : decode cX8_legs 111 = .ok (.getfield 77, 3) := by decide +kernel
theorem dX8_legs_114 : decode cX8_legs 114 = .ok (.iload 4, 2) := by decide +kernel
theorem dX8_legs_116 : decode cX8_legs 116 = .ok (.iaload, 1) := by decide +kernel
theorem dX8_legs_117 : decode cX8_legs 117 = .ok (.putfield 197, 3) := by decide +kernel
theorem dX8_legs_120 : decode cX8_legs 120 = .ok (.aload_n 0, 1) := by decide +kernel
theorem dX8_legs_121 : decode cX8_legs 121 = .ok (.aload_n 0, 1) := by decide +kernel
theorem dX8_legs_122 : decode cX8_legs 122 = .ok (.iconst 1, 1) := by decide +kernel
theorem dX8_legs_123 : decode cX8_legs 123 = .ok (.invokevirtual 228, 3) := by decide +kernel
theorem dX8_legs_126 : decode cX8_legs 126 = .ok (.putfield 225, 3) := by decide +kernel
theorem dX8_legs_129 : decode cX8_legs 129 = .ok (.iload 5, 2) := by decide +kernel
theorem dX8_legs_131 : decode cX8_legs 131 = .ok (.iload 5, 2) := by decide +kernel
theorem dX8_legs_133 : decode cX8_legs 133 = .ok (.ifCond .le 7, 3) := by decide +kernel
theorem dX8_legs_136 : decode cX8_legs 136 = .ok (.iconst 1, 1) := by decide +kernel
theorem dX8_legs_137 : decode cX8_legs 137 = .ok (.goto 4, 3) := by decide +kernel
theorem dX8_legs_140 : decode cX8_legs 140 = .ok (.iconst 0, 1) := by decide +kernel
theorem dX8_legs_141 : decode cX8_legs 141 = .ok (.isub, 1) := by decide +kernel
theorem dX8_legs_142 : decode cX8_legs 142 = .ok (.istore 5, 2) := by decide +kernel
theorem dX8_legs_144 : decode cX8_legs 144 = .ok (.goto (-70), 3) := by decide +kernel
theorem dX8_legs_147 : decode cX8_legs 147 = .ok (.aload_n 0, 1) := by decide +kernel
theorem dX8_legs_148 : decode cX8_legs 148 = .ok (.iconst 0, 1) := by decide +kernel
theorem dX8_legs_149 : decode cX8_legs 149 = .ok (.putfield 307, 3) := by decide +kernel
theorem dX8_legs_152 : decode cX8_legs 152 = .ok (.aload_n 0, 1) := by decide +kernel
theorem dX8_legs_153 : decode cX8_legs 153 = .ok (.getfield 203, 3) := by decide +kernel
theorem dX8_legs_156 : decode cX8_legs 156 = .ok (.ireturn, 1) := by decide +kernel
theorem dX8_draws_0 : decode cX8_draws 0 = .ok (.aload_n 0, 1) := by decide +kernel
theorem dX8_draws_1 : decode cX8_draws 1 = .ok (.iload_n 1, 1) := by decide +kernel
theorem dX8_draws_2 : decode cX8_draws 2 = .ok (.invokevirtual 129, 3) := by decide +kernel
theorem dX8_draws_5 : decode cX8_draws 5 = .ok (.ifCond .eq 10, 3) := by decide +kernel
theorem dX8_draws_8 : decode cX8_draws 8 = .ok (.iload_n 2, 1) := by decide +kernel
theorem dX8_draws_9 : decode cX8_draws 9 = .ok (.invokestatic 174, 3) := by decide +kernel
theorem dX8_draws_12 : decode cX8_draws 12 = .ok (.ifCond .ne 9, 3) := by decide +kernel
theorem dX8_draws_15 : decode cX8_draws 15 = .ok (.aload_n 0, 1) := by decide +kernel
theorem dX8_draws_16 : decode cX8_draws 16 = .ok (.iconst (-1), 1) := by decide +kernel
theorem dX8_draws_17 : decode cX8_draws 17 = .ok (.invokevirtual 93, 3) := by decide +kernel
theorem dX8_draws_20 : decode cX8_draws 20 = .ok (.ireturn, 1) := by decide +kernel
theorem dX8_draws_21 : decode cX8_draws 21 = .ok (.iload 6, 2) := by decide +kernel
theorem dX8_draws_23 : decode cX8_draws 23 = .ok (.iconst 0, 1) := by decide +kernel
theorem dX8_draws_24 : decode cX8_draws 24 = .ok (.iconst 1, 1) := by decide +kernel
theorem dX8_draws_25 : decode cX8_draws 25 = .ok (.invokestatic 106, 3) := by decide +kernel
theorem dX8_draws_28 : decode cX8_draws 28 = .ok (.ifCond .ne 10, 3) := by decide +kernel
theorem dX8_draws_31 : decode cX8_draws 31 = .ok (.aload_n 0, 1) := by decide +kernel
theorem dX8_draws_32 : decode cX8_draws 32 = .ok (.bipush (-2), 2) := by decide +kernel
theorem dX8_draws_34 : decode cX8_draws 34 = .ok (.invokevirtual 93, 3) := by decide +kernel
theorem dX8_draws_37 : decode cX8_draws 37 = .ok (.ireturn, 1) := by decide +kernel
theorem dX8_draws_38 : decode cX8_draws 38 = .ok (.iload_n 3, 1) := by decide +kernel
theorem dX8_draws_39 : decode cX8_draws 39 = .ok (.iconst 1, 1) := by decide +kernel
theorem dX8_draws_40 : decode cX8_draws 40 = .ok (.if_icmp .lt 8, 3) := by decide +kernel
theorem dX8_draws_43 : decode cX8_draws 43 = .ok (.iload 5, 2) := by decide +kernel
theorem dX8_draws_45 : decode cX8_draws 45 = .ok (.ifCond .ge 8, 3) := by decide +kernel
theorem dX8_draws_48 : decode cX8_draws 48 = .ok (.bipush (-4), 2) := by decide +kernel
theorem dX8_draws_50 : decode cX8_draws 50 = .ok (.goto 23, 3) := by decide +kernel
theorem dX8_draws_53 : decode cX8_draws 53 = .ok (.iload_n 3, 1) := by decide +kernel
theorem dX8_draws_54 : decode cX8_draws 54 = .ok (.bipush 30, 2) := by decide +kernel
theorem dX8_draws_56 : decode cX8_draws 56 = .ok (.if_icmp .gt 11, 3) := by decide +kernel
theorem dX8_draws_59 : decode cX8_draws 59 = .ok (.iload 5, 2) := by decide +kernel
theorem dX8_draws_61 : decode cX8_draws 61 = .ok (.sipush 9999, 3) := by decide +kernel
theorem dX8_draws_64 : decode cX8_draws 64 = .ok (.if_icmp .le 8, 3) := by decide +kernel
theorem dX8_draws_67 : decode cX8_draws 67 = .ok (.bipush (-6), 2) := by decide +kernel
theorem dX8_draws_69 : decode cX8_draws 69 = .ok (.goto 4, 3) := by decide +kernel
theorem dX8_draws_72 : decode cX8_draws 72 = .ok (.iconst 0, 1) := by decide +kernel
theorem dX8_draws_73 : decode cX8_draws 73 = .ok (.istore 7, 2) := by decide +kernel
theorem dX8_draws_75 : decode cX8_draws 75 = .ok (.iload 7, 2) := by decide +kernel
theorem dX8_draws_77 : decode cX8_draws 77 = .ok (.ifCond .eq 10, 3) := by decide +kernel
theorem dX8_draws_80 : decode cX8_draws 80 = .ok (.aload_n 0, 1) := by decide +kernel
theorem dX8_draws_81 : decode cX8_draws 81 = .ok (.iload 7, 2) := by decide +kernel
theorem dX8_draws_83 : decode cX8_draws 83 = .ok (.invokevirtual 93, 3) := by decide +kernel
theorem dX8_draws_86 : decode cX8_draws 86 = .ok (.ireturn, 1) := by decide +kernel
theorem dX8_draws_87 : decode cX8_draws 87 = .ok (.iconst 0, 1) := by decide +kernel
theorem dX8_draws_88 : decode cX8_draws 88 = .ok (.istore 8, 2) := by decide +kernel
theorem dX8_draws_90 : decode cX8_draws 90 = .ok (.iload 4, 2) := by decide +kernel
theorem dX8_draws_92 : decode cX8_draws 92 = .ok (.istore 9, 2) := by decide +kernel
theorem dX8_draws_94 : decode cX8_draws 94 = .ok (.iconst 0, 1) := by decide +kernel
theorem dX8_draws_95 : decode cX8_draws 95 = .ok (.istore 10, 2) := by decide +kernel
theorem dX8_draws_97 : decode cX8_draws 97 = .ok (.iload 10, 2) := by decide +kernel
theorem dX8_draws_99 : decode cX8_draws 99 = .ok (.iload_n 3, 1) := by decide +kernel
theorem dX8_draws_100 : decode cX8_draws 100 = .ok (.if_icmp .ge 78, 3) := by decide +kernel
theorem dX8_draws_103 : decode cX8_draws 103 = .ok (.iload 9, 2) := by decide +kernel
theorem dX8_draws_105 : decode cX8_draws 105 = .ok (.ldc_w 310, 3) := by decide +kernel
theorem dX8_draws_108 : decode cX8_draws 108 = .ok (.imul, 1) := by decide +kernel
theorem dX8_draws_109 : decode cX8_draws 109 = .ok (.sipush 12345, 3) := by decide +kernel
theorem dX8_draws_112 : decode cX8_draws 112 = .ok (.iadd, 1) := by decide +kernel
theorem dX8_draws_113 : decode cX8_draws 113 = .ok (.istore 9, 2) := by decide +kernel
theorem dX8_draws_115 : decode cX8_draws 115 = .ok (.aload_n 0, 1) := by decide +kernel
theorem dX8_draws_116 : decode cX8_draws 116 = .ok (.iload_n 1, 1) := by decide +kernel
theorem dX8_draws_117 : decode cX8_draws 117 = .ok (.iconst 1, 1) := by decide +kernel
theorem dX8_draws_118 : decode cX8_draws 118 = .ok (.iload 9, 2) := by decide +kernel
theorem dX8_draws_120 : decode cX8_draws 120 = .ok (.ldc_w 311, 3) := by decide +kernel
theorem dX8_draws_123 : decode cX8_draws 123 = .ok (.iand, 1) := by decide +kernel
theorem dX8_draws_124 : decode cX8_draws 124 = .ok (.ldc_w 312, 3) := by decide +kernel
theorem dX8_draws_127 : decode cX8_draws 127 = .ok (.idiv, 1) := by decide +kernel
theorem dX8_draws_128 : decode cX8_draws 128 = .ok (.sipush 9000, 3) := by decide +kernel
theorem dX8_draws_131 : decode cX8_draws 131 = .ok (.irem, 1) := by decide +kernel
theorem dX8_draws_132 : decode cX8_draws 132 = .ok (.iadd, 1) := by decide +kernel
theorem dX8_draws_133 : decode cX8_draws 133 = .ok (.iload_n 2, 1) := by decide +kernel
theorem dX8_draws_134 : decode cX8_draws 134 = .ok (.invokevirtual 272, 3) := by decide +kernel
theorem dX8_draws_137 : decode cX8_draws 137 = .ok (.istore 11, 2) := by decide +kernel
theorem dX8_draws_139 : decode cX8_draws 139 = .ok (.iload 8, 2) := by decide +kernel
theorem dX8_draws_141 : decode cX8_draws 141 = .ok (.iload 6, 2) := by decide +kernel
theorem dX8_draws_143 : decode cX8_draws 143 = .ok (.ifCond .ne 13, 3) := by decide +kernel
theorem dX8_draws_146 : decode cX8_draws 146 = .ok (.iload 11, 2) := by decide +kernel
theorem dX8_draws_148 : decode cX8_draws 148 = .ok (.iload 5, 2) := by decide +kernel
theorem dX8_draws_150 : decode cX8_draws 150 = .ok (.if_icmp .lt 18, 3) := by decide +kernel
theorem dX8_draws_153 : decode cX8_draws 153 = .ok (.goto 11, 3) := by decide +kernel
theorem dX8_draws_156 : decode cX8_draws 156 = .ok (.aload_n 0, 1) := by decide +kernel
theorem dX8_draws_157 : decode cX8_draws 157 = .ok (.getfield 225, 3) := by decide +kernel
theorem dX8_draws_160 : decode cX8_draws 160 = .ok (.iconst 2, 1) := by decide +kernel
theorem dX8_draws_161 : decode cX8_draws 161 = .ok (.if_icmp .ne 7, 3) := by decide +kernel
theorem dX8_draws_164 : decode cX8_draws 164 = .ok (.iconst 1, 1) := by decide +kernel
theorem dX8_draws_165 : decode cX8_draws 165 = .ok (.goto 4, 3) := by decide +kernel
theorem dX8_draws_168 : decode cX8_draws 168 = .ok (.iconst 0, 1) := by decide +kernel
theorem dX8_draws_169 : decode cX8_draws 169 = .ok (.iadd, 1) := by decide +kernel
theorem dX8_draws_170 : decode cX8_draws 170 = .ok (.istore 8, 2) := by decide +kernel
theorem dX8_draws_172 : decode cX8_draws 172 = .ok (.iinc 10 1, 3) := by decide +kernel
theorem dX8_draws_175 : decode cX8_draws 175 = .ok (.goto (-78), 3) := by decide +kernel
theorem dX8_draws_178 : decode cX8_draws 178 = .ok (.iload 8, 2) := by decide +kernel
theorem dX8_draws_180 : decode cX8_draws 180 = .ok (.ireturn, 1) := by decide +kernel
theorem dX8_turns_0 : decode cX8_turns 0 = .ok (.iconst 0, 1) := by decide +kernel
theorem dX8_turns_1 : decode cX8_turns 1 = .ok (.istore_n 2, 1) := by decide +kernel
theorem dX8_turns_2 : decode cX8_turns 2 = .ok (.iload_n 2, 1) := by decide +kernel
theorem dX8_turns_3 : decode cX8_turns 3 = .ok (.aload_n 1, 1) := by decide +kernel
theorem dX8_turns_4 : decode cX8_turns 4 = .ok (.arraylength, 1) := by decide +kernel
theorem dX8_turns_5 : decode cX8_turns 5 = .ok (.if_icmp .ge 53, 3) := by decide +kernel
theorem dX8_turns_8 : decode cX8_turns 8 = .ok (.aload_n 0, 1) := by decide +kernel
theorem dX8_turns_9 : decode cX8_turns 9 = .ok (.getfield 313, 3) := by decide +kernel
theorem dX8_turns_12 : decode cX8_turns 12 = .ok (.ifCond .eq 18, 3) := by decide +kernel
theorem dX8_turns_15 : decode cX8_turns 15 = .ok (.aload_n 0, 1) := by decide +kernel
theorem dX8_turns_16 : decode cX8_turns 16 = .ok (.getfield 83, 3) := by decide +kernel
theorem dX8_turns_19 : decode cX8_turns 19 = .ok (.aload_n 0, 1) := by decide +kernel
theorem dX8_turns_20 : decode cX8_turns 20 = .ok (.getfield 316, 3) := by decide +kernel
theorem dX8_turns_23 : decode cX8_turns 23 = .ok (.aload_n 1, 1) := by decide +kernel
theorem dX8_turns_24 : decode cX8_turns 24 = .ok (.iload_n 2, 1) := by decide +kernel
theorem dX8_turns_25 : decode cX8_turns 25 = .ok (.iaload, 1) := by decide +kernel
theorem dX8_turns_26 : decode cX8_turns 26 = .ok (.iastore, 1) := by decide +kernel
theorem dX8_turns_27 : decode cX8_turns 27 = .ok (.goto 15, 3) := by decide +kernel
theorem dX8_turns_30 : decode cX8_turns 30 = .ok (.aload_n 1, 1) := by decide +kernel
theorem dX8_turns_31 : decode cX8_turns 31 = .ok (.iload_n 2, 1) := by decide +kernel
theorem dX8_turns_32 : decode cX8_turns 32 = .ok (.aload_n 0, 1) := by decide +kernel
theorem dX8_turns_33 : decode cX8_turns 33 = .ok (.getfield 83, 3) := by decide +kernel
theorem dX8_turns_36 : decode cX8_turns 36 = .ok (.aload_n 0, 1) := by decide +kernel
theorem dX8_turns_37 : decode cX8_turns 37 = .ok (.getfield 316, 3) := by decide +kernel
theorem dX8_turns_40 : decode cX8_turns 40 = .ok (.iaload, 1) := by decide +kernel
theorem dX8_turns_41 : decode cX8_turns 41 = .ok (.iastore, 1) := by decide +kernel
theorem dX8_turns_42 : decode cX8_turns 42 = .ok (.aload_n 0, 1) := by decide +kernel
theorem dX8_turns_43 : decode cX8_turns 43 = .ok (.dup, 1) := by decide +kernel
theorem dX8_turns_44 : decode cX8_turns 44 = .ok (.getfield 316, 3) := by decide +kernel
theorem dX8_turns_47 : decode cX8_turns 47 = .ok (.iconst 1, 1) := by decide +kernel
theorem dX8_turns_48 : decode cX8_turns 48 = .ok (.iadd, 1) := by decide +kernel
theorem dX8_turns_49 : decode cX8_turns 49 = .ok (.putfield 316, 3) := by decide +kernel
theorem dX8_turns_52 : decode cX8_turns 52 = .ok (.iinc 2 1, 3) := by decide +kernel
theorem dX8_turns_55 : decode cX8_turns 55 = .ok (.goto (-53), 3) := by decide +kernel
theorem dX8_turns_58 : decode cX8_turns 58 = .ok (.return_, 1) := by decide +kernel
theorem dX8_passOne_0 : decode cX8_passOne 0 = .ok (.aload_n 0, 1) := by decide +kernel
theorem dX8_passOne_1 : decode cX8_passOne 1 = .ok (.getfield 313, 3) := by decide +kernel
theorem dX8_passOne_4 : decode cX8_passOne 4 = .ok (.ifCond .eq 7, 3) := by decide +kernel
theorem dX8_passOne_7 : decode cX8_passOne 7 = .ok (.iload_n 1, 1) := by decide +kernel
theorem dX8_passOne_8 : decode cX8_passOne 8 = .ok (.goto 12, 3) := by decide +kernel
theorem dX8_passOne_11 : decode cX8_passOne 11 = .ok (.aload_n 0, 1) := by decide +kernel
theorem dX8_passOne_12 : decode cX8_passOne 12 = .ok (.getfield 83, 3) := by decide +kernel
theorem dX8_passOne_15 : decode cX8_passOne 15 = .ok (.aload_n 0, 1) := by decide +kernel
theorem dX8_passOne_16 : decode cX8_passOne 16 = .ok (.getfield 316, 3) := by decide +kernel
theorem dX8_passOne_19 : decode cX8_passOne 19 = .ok (.iaload, 1) := by decide +kernel
theorem dX8_passOne_20 : decode cX8_passOne 20 = .ok (.istore_n 2, 1) := by decide +kernel
theorem dX8_passOne_21 : decode cX8_passOne 21 = .ok (.aload_n 0, 1) := by decide +kernel
theorem dX8_passOne_22 : decode cX8_passOne 22 = .ok (.getfield 313, 3) := by decide +kernel
theorem dX8_passOne_25 : decode cX8_passOne 25 = .ok (.ifCond .eq 13, 3) := by decide +kernel
theorem dX8_passOne_28 : decode cX8_passOne 28 = .ok (.aload_n 0, 1) := by decide +kernel
theorem dX8_passOne_29 : decode cX8_passOne 29 = .ok (.getfield 83, 3) := by decide +kernel
theorem dX8_passOne_32 : decode cX8_passOne 32 = .ok (.aload_n 0, 1) := by decide +kernel
theorem dX8_passOne_33 : decode cX8_passOne 33 = .ok (.getfield 316, 3) := by decide +kernel
theorem dX8_passOne_36 : decode cX8_passOne 36 = .ok (.iload_n 1, 1) := by decide +kernel
theorem dX8_passOne_37 : decode cX8_passOne 37 = .ok (.iastore, 1) := by decide +kernel
theorem dX8_passOne_38 : decode cX8_passOne 38 = .ok (.aload_n 0, 1) := by decide +kernel
theorem dX8_passOne_39 : decode cX8_passOne 39 = .ok (.dup, 1) := by decide +kernel
theorem dX8_passOne_40 : decode cX8_passOne 40 = .ok (.getfield 316, 3) := by decide +kernel
theorem dX8_passOne_43 : decode cX8_passOne 43 = .ok (.iconst 1, 1) := by decide +kernel
theorem dX8_passOne_44 : decode cX8_passOne 44 = .ok (.iadd, 1) := by decide +kernel
theorem dX8_passOne_45 : decode cX8_passOne 45 = .ok (.putfield 316, 3) := by decide +kernel
theorem dX8_passOne_48 : decode cX8_passOne 48 = .ok (.iload_n 2, 1) := by decide +kernel
theorem dX8_passOne_49 : decode cX8_passOne 49 = .ok (.ireturn, 1) := by decide +kernel
theorem dX8_passesAll_0 : decode cX8_passesAll 0 = .ok (.aload_n 0, 1) := by decide +kernel
theorem dX8_passesAll_1 : decode cX8_passesAll 1 = .ok (.iconst 0, 1) := by decide +kernel
theorem dX8_passesAll_2 : decode cX8_passesAll 2 = .ok (.putfield 316, 3) := by decide +kernel
theorem dX8_passesAll_5 : decode cX8_passesAll 5 = .ok (.aload_n 0, 1) := by decide +kernel
theorem dX8_passesAll_6 : decode cX8_passesAll 6 = .ok (.aload_n 0, 1) := by decide +kernel
theorem dX8_passesAll_7 : decode cX8_passesAll 7 = .ok (.getfield 16, 3) := by decide +kernel
theorem dX8_passesAll_10 : decode cX8_passesAll 10 = .ok (.invokevirtual 319, 3) := by decide +kernel
theorem dX8_passesAll_13 : decode cX8_passesAll 13 = .ok (.aload_n 0, 1) := by decide +kernel
theorem dX8_passesAll_14 : decode cX8_passesAll 14 = .ok (.aload_n 0, 1) := by decide +kernel
theorem dX8_passesAll_15 : decode cX8_passesAll 15 = .ok (.getfield 19, 3) := by decide +kernel
theorem dX8_passesAll_18 : decode cX8_passesAll 18 = .ok (.invokevirtual 319, 3) := by decide +kernel
theorem dX8_passesAll_21 : decode cX8_passesAll 21 = .ok (.aload_n 0, 1) := by decide +kernel
theorem dX8_passesAll_22 : decode cX8_passesAll 22 = .ok (.aload_n 0, 1) := by decide +kernel
theorem dX8_passesAll_23 : decode cX8_passesAll 23 = .ok (.getfield 22, 3) := by decide +kernel
theorem dX8_passesAll_26 : decode cX8_passesAll 26 = .ok (.invokevirtual 319, 3) := by decide +kernel
theorem dX8_passesAll_29 : decode cX8_passesAll 29 = .ok (.aload_n 0, 1) := by decide +kernel
theorem dX8_passesAll_30 : decode cX8_passesAll 30 = .ok (.aload_n 0, 1) := by decide +kernel
theorem dX8_passesAll_31 : decode cX8_passesAll 31 = .ok (.getfield 25, 3) := by decide +kernel
theorem dX8_passesAll_34 : decode cX8_passesAll 34 = .ok (.invokevirtual 319, 3) := by decide +kernel
theorem dX8_passesAll_37 : decode cX8_passesAll 37 = .ok (.aload_n 0, 1) := by decide +kernel
theorem dX8_passesAll_38 : decode cX8_passesAll 38 = .ok (.aload_n 0, 1) := by decide +kernel
theorem dX8_passesAll_39 : decode cX8_passesAll 39 = .ok (.getfield 28, 3) := by decide +kernel
theorem dX8_passesAll_42 : decode cX8_passesAll 42 = .ok (.invokevirtual 319, 3) := by decide +kernel
theorem dX8_passesAll_45 : decode cX8_passesAll 45 = .ok (.aload_n 0, 1) := by decide +kernel
theorem dX8_passesAll_46 : decode cX8_passesAll 46 = .ok (.aload_n 0, 1) := by decide +kernel
theorem dX8_passesAll_47 : decode cX8_passesAll 47 = .ok (.getfield 31, 3) := by decide +kernel
theorem dX8_passesAll_50 : decode cX8_passesAll 50 = .ok (.invokevirtual 319, 3) := by decide +kernel
theorem dX8_passesAll_53 : decode cX8_passesAll 53 = .ok (.aload_n 0, 1) := by decide +kernel
theorem dX8_passesAll_54 : decode cX8_passesAll 54 = .ok (.aload_n 0, 1) := by decide +kernel
theorem dX8_passesAll_55 : decode cX8_passesAll 55 = .ok (.getfield 34, 3) := by decide +kernel
theorem dX8_passesAll_58 : decode cX8_passesAll 58 = .ok (.invokevirtual 319, 3) := by decide +kernel
theorem dX8_passesAll_61 : decode cX8_passesAll 61 = .ok (.aload_n 0, 1) := by decide +kernel
theorem dX8_passesAll_62 : decode cX8_passesAll 62 = .ok (.aload_n 0, 1) := by decide +kernel
theorem dX8_passesAll_63 : decode cX8_passesAll 63 = .ok (.getfield 41, 3) := by decide +kernel
theorem dX8_passesAll_66 : decode cX8_passesAll 66 = .ok (.invokevirtual 319, 3) := by decide +kernel
theorem dX8_passesAll_69 : decode cX8_passesAll 69 = .ok (.aload_n 0, 1) := by decide +kernel
theorem dX8_passesAll_70 : decode cX8_passesAll 70 = .ok (.aload_n 0, 1) := by decide +kernel
theorem dX8_passesAll_71 : decode cX8_passesAll 71 = .ok (.getfield 44, 3) := by decide +kernel
theorem dX8_passesAll_74 : decode cX8_passesAll 74 = .ok (.invokevirtual 319, 3) := by decide +kernel
theorem dX8_passesAll_77 : decode cX8_passesAll 77 = .ok (.aload_n 0, 1) := by decide +kernel
theorem dX8_passesAll_78 : decode cX8_passesAll 78 = .ok (.aload_n 0, 1) := by decide +kernel
theorem dX8_passesAll_79 : decode cX8_passesAll 79 = .ok (.getfield 47, 3) := by decide +kernel
theorem dX8_passesAll_82 : decode cX8_passesAll 82 = .ok (.invokevirtual 319, 3) := by decide +kernel
theorem dX8_passesAll_85 : decode cX8_passesAll 85 = .ok (.aload_n 0, 1) := by decide +kernel
theorem dX8_passesAll_86 : decode cX8_passesAll 86 = .ok (.aload_n 0, 1) := by decide +kernel
theorem dX8_passesAll_87 : decode cX8_passesAll 87 = .ok (.getfield 50, 3) := by decide +kernel
theorem dX8_passesAll_90 : decode cX8_passesAll 90 = .ok (.invokevirtual 319, 3) := by decide +kernel
theorem dX8_passesAll_93 : decode cX8_passesAll 93 = .ok (.aload_n 0, 1) := by decide +kernel
theorem dX8_passesAll_94 : decode cX8_passesAll 94 = .ok (.aload_n 0, 1) := by decide +kernel
theorem dX8_passesAll_95 : decode cX8_passesAll 95 = .ok (.getfield 53, 3) := by decide +kernel
theorem dX8_passesAll_98 : decode cX8_passesAll 98 = .ok (.invokevirtual 319, 3) := by decide +kernel
theorem dX8_passesAll_101 : decode cX8_passesAll 101 = .ok (.aload_n 0, 1) := by decide +kernel
theorem dX8_passesAll_102 : decode cX8_passesAll 102 = .ok (.aload_n 0, 1) := by decide +kernel
theorem dX8_passesAll_103 : decode cX8_passesAll 103 = .ok (.getfield 56, 3) := by decide +kernel
theorem dX8_passesAll_106 : decode cX8_passesAll 106 = .ok (.invokevirtual 319, 3) := by decide +kernel
theorem dX8_passesAll_109 : decode cX8_passesAll 109 = .ok (.aload_n 0, 1) := by decide +kernel
theorem dX8_passesAll_110 : decode cX8_passesAll 110 = .ok (.aload_n 0, 1) := by decide +kernel
theorem dX8_passesAll_111 : decode cX8_passesAll 111 = .ok (.getfield 68, 3) := by decide +kernel
theorem dX8_passesAll_114 : decode cX8_passesAll 114 = .ok (.invokevirtual 319, 3) := by decide +kernel
theorem dX8_passesAll_117 : decode cX8_passesAll 117 = .ok (.aload_n 0, 1) := by decide +kernel
theorem dX8_passesAll_118 : decode cX8_passesAll 118 = .ok (.aload_n 0, 1) := by decide +kernel
theorem dX8_passesAll_119 : decode cX8_passesAll 119 = .ok (.getfield 71, 3) := by decide +kernel
theorem dX8_passesAll_122 : decode cX8_passesAll 122 = .ok (.invokevirtual 319, 3) := by decide +kernel
theorem dX8_passesAll_125 : decode cX8_passesAll 125 = .ok (.aload_n 0, 1) := by decide +kernel
theorem dX8_passesAll_126 : decode cX8_passesAll 126 = .ok (.aload_n 0, 1) := by decide +kernel
theorem dX8_passesAll_127 : decode cX8_passesAll 127 = .ok (.getfield 74, 3) := by decide +kernel
theorem dX8_passesAll_130 : decode cX8_passesAll 130 = .ok (.invokevirtual 319, 3) := by decide +kernel
theorem dX8_passesAll_133 : decode cX8_passesAll 133 = .ok (.aload_n 0, 1) := by decide +kernel
theorem dX8_passesAll_134 : decode cX8_passesAll 134 = .ok (.aload_n 0, 1) := by decide +kernel
theorem dX8_passesAll_135 : decode cX8_passesAll 135 = .ok (.getfield 77, 3) := by decide +kernel
theorem dX8_passesAll_138 : decode cX8_passesAll 138 = .ok (.invokevirtual 319, 3) := by decide +kernel
theorem dX8_passesAll_141 : decode cX8_passesAll 141 = .ok (.aload_n 0, 1) := by decide +kernel
theorem dX8_passesAll_142 : decode cX8_passesAll 142 = .ok (.aload_n 0, 1) := by decide +kernel
theorem dX8_passesAll_143 : decode cX8_passesAll 143 = .ok (.getfield 80, 3) := by decide +kernel
theorem dX8_passesAll_146 : decode cX8_passesAll 146 = .ok (.invokevirtual 319, 3) := by decide +kernel
theorem dX8_passesAll_149 : decode cX8_passesAll 149 = .ok (.aload_n 0, 1) := by decide +kernel
theorem dX8_passesAll_150 : decode cX8_passesAll 150 = .ok (.aload_n 0, 1) := by decide +kernel
theorem dX8_passesAll_151 : decode cX8_passesAll 151 = .ok (.aload_n 0, 1) := by decide +kernel
theorem dX8_passesAll_152 : decode cX8_passesAll 152 = .ok (.getfield 123, 3) := by decide +kernel
theorem dX8_passesAll_155 : decode cX8_passesAll 155 = .ok (.invokevirtual 323, 3) := by decide +kernel
theorem dX8_passesAll_158 : decode cX8_passesAll 158 = .ok (.putfield 123, 3) := by decide +kernel
theorem dX8_passesAll_161 : decode cX8_passesAll 161 = .ok (.aload_n 0, 1) := by decide +kernel
theorem dX8_passesAll_162 : decode cX8_passesAll 162 = .ok (.aload_n 0, 1) := by decide +kernel
theorem dX8_passesAll_163 : decode cX8_passesAll 163 = .ok (.aload_n 0, 1) := by decide +kernel
theorem dX8_passesAll_164 : decode cX8_passesAll 164 = .ok (.getfield 37, 3) := by decide +kernel
theorem dX8_passesAll_167 : decode cX8_passesAll 167 = .ok (.invokevirtual 323, 3) := by decide +kernel
theorem dX8_passesAll_170 : decode cX8_passesAll 170 = .ok (.putfield 37, 3) := by decide +kernel
theorem dX8_passesAll_173 : decode cX8_passesAll 173 = .ok (.aload_n 0, 1) := by decide +kernel
theorem dX8_passesAll_174 : decode cX8_passesAll 174 = .ok (.aload_n 0, 1) := by decide +kernel
theorem dX8_passesAll_175 : decode cX8_passesAll 175 = .ok (.aload_n 0, 1) := by decide +kernel
theorem dX8_passesAll_176 : decode cX8_passesAll 176 = .ok (.getfield 155, 3) := by decide +kernel
theorem dX8_passesAll_179 : decode cX8_passesAll 179 = .ok (.invokevirtual 323, 3) := by decide +kernel
theorem dX8_passesAll_182 : decode cX8_passesAll 182 = .ok (.putfield 155, 3) := by decide +kernel
theorem dX8_passesAll_185 : decode cX8_passesAll 185 = .ok (.aload_n 0, 1) := by decide +kernel
theorem dX8_passesAll_186 : decode cX8_passesAll 186 = .ok (.aload_n 0, 1) := by decide +kernel
theorem dX8_passesAll_187 : decode cX8_passesAll 187 = .ok (.aload_n 0, 1) := by decide +kernel
theorem dX8_passesAll_188 : decode cX8_passesAll 188 = .ok (.getfield 253, 3) := by decide +kernel
theorem dX8_passesAll_191 : decode cX8_passesAll 191 = .ok (.invokevirtual 323, 3) := by decide +kernel
theorem dX8_passesAll_194 : decode cX8_passesAll 194 = .ok (.putfield 253, 3) := by decide +kernel
theorem dX8_passesAll_197 : decode cX8_passesAll 197 = .ok (.aload_n 0, 1) := by decide +kernel
theorem dX8_passesAll_198 : decode cX8_passesAll 198 = .ok (.aload_n 0, 1) := by decide +kernel
theorem dX8_passesAll_199 : decode cX8_passesAll 199 = .ok (.aload_n 0, 1) := by decide +kernel
theorem dX8_passesAll_200 : decode cX8_passesAll 200 = .ok (.getfield 250, 3) := by decide +kernel
theorem dX8_passesAll_203 : decode cX8_passesAll 203 = .ok (.invokevirtual 323, 3) := by decide +kernel
theorem dX8_passesAll_206 : decode cX8_passesAll 206 = .ok (.putfield 250, 3) := by decide +kernel
theorem dX8_passesAll_209 : decode cX8_passesAll 209 = .ok (.aload_n 0, 1) := by decide +kernel
theorem dX8_passesAll_210 : decode cX8_passesAll 210 = .ok (.aload_n 0, 1) := by decide +kernel
theorem dX8_passesAll_211 : decode cX8_passesAll 211 = .ok (.aload_n 0, 1) := by decide +kernel
theorem dX8_passesAll_212 : decode cX8_passesAll 212 = .ok (.getfield 247, 3) := by decide +kernel
theorem dX8_passesAll_215 : decode cX8_passesAll 215 = .ok (.invokevirtual 323, 3) := by decide +kernel
theorem dX8_passesAll_218 : decode cX8_passesAll 218 = .ok (.putfield 247, 3) := by decide +kernel
theorem dX8_passesAll_221 : decode cX8_passesAll 221 = .ok (.aload_n 0, 1) := by decide +kernel
theorem dX8_passesAll_222 : decode cX8_passesAll 222 = .ok (.aload_n 0, 1) := by decide +kernel
theorem dX8_passesAll_223 : decode cX8_passesAll 223 = .ok (.aload_n 0, 1) := by decide +kernel
theorem dX8_passesAll_224 : decode cX8_passesAll 224 = .ok (.getfield 256, 3) := by decide +kernel
theorem dX8_passesAll_227 : decode cX8_passesAll 227 = .ok (.invokevirtual 323, 3) := by decide +kernel
theorem dX8_passesAll_230 : decode cX8_passesAll 230 = .ok (.putfield 256, 3) := by decide +kernel
theorem dX8_passesAll_233 : decode cX8_passesAll 233 = .ok (.aload_n 0, 1) := by decide +kernel
theorem dX8_passesAll_234 : decode cX8_passesAll 234 = .ok (.aload_n 0, 1) := by decide +kernel
theorem dX8_passesAll_235 : decode cX8_passesAll 235 = .ok (.aload_n 0, 1) := by decide +kernel
theorem dX8_passesAll_236 : decode cX8_passesAll 236 = .ok (.getfield 241, 3) := by decide +kernel
theorem dX8_passesAll_239 : decode cX8_passesAll 239 = .ok (.invokevirtual 323, 3) := by decide +kernel
theorem dX8_passesAll_242 : decode cX8_passesAll 242 = .ok (.putfield 241, 3) := by decide +kernel
theorem dX8_passesAll_245 : decode cX8_passesAll 245 = .ok (.aload_n 0, 1) := by decide +kernel
theorem dX8_passesAll_246 : decode cX8_passesAll 246 = .ok (.aload_n 0, 1) := by decide +kernel
theorem dX8_passesAll_247 : decode cX8_passesAll 247 = .ok (.aload_n 0, 1) := by decide +kernel
theorem dX8_passesAll_248 : decode cX8_passesAll 248 = .ok (.getfield 262, 3) := by decide +kernel
theorem dX8_passesAll_251 : decode cX8_passesAll 251 = .ok (.invokevirtual 323, 3) := by decide +kernel
theorem dX8_passesAll_254 : decode cX8_passesAll 254 = .ok (.putfield 262, 3) := by decide +kernel
theorem dX8_passesAll_257 : decode cX8_passesAll 257 = .ok (.aload_n 0, 1) := by decide +kernel
theorem dX8_passesAll_258 : decode cX8_passesAll 258 = .ok (.aload_n 0, 1) := by decide +kernel
theorem dX8_passesAll_259 : decode cX8_passesAll 259 = .ok (.aload_n 0, 1) := by decide +kernel
theorem dX8_passesAll_260 : decode cX8_passesAll 260 = .ok (.getfield 259, 3) := by decide +kernel
theorem dX8_passesAll_263 : decode cX8_passesAll 263 = .ok (.invokevirtual 323, 3) := by decide +kernel
theorem dX8_passesAll_266 : decode cX8_passesAll 266 = .ok (.putfield 259, 3) := by decide +kernel
theorem dX8_passesAll_269 : decode cX8_passesAll 269 = .ok (.aload_n 0, 1) := by decide +kernel
theorem dX8_passesAll_270 : decode cX8_passesAll 270 = .ok (.aload_n 0, 1) := by decide +kernel
theorem dX8_passesAll_271 : decode cX8_passesAll 271 = .ok (.aload_n 0, 1) := by decide +kernel
theorem dX8_passesAll_272 : decode cX8_passesAll 272 = .ok (.getfield 244, 3) := by decide +kernel
theorem dX8_passesAll_275 : decode cX8_passesAll 275 = .ok (.invokevirtual 323, 3) := by decide +kernel
theorem dX8_passesAll_278 : decode cX8_passesAll 278 = .ok (.putfield 244, 3) := by decide +kernel
theorem dX8_passesAll_281 : decode cX8_passesAll 281 = .ok (.aload_n 0, 1) := by decide +kernel
theorem dX8_passesAll_282 : decode cX8_passesAll 282 = .ok (.aload_n 0, 1) := by decide +kernel
theorem dX8_passesAll_283 : decode cX8_passesAll 283 = .ok (.aload_n 0, 1) := by decide +kernel
theorem dX8_passesAll_284 : decode cX8_passesAll 284 = .ok (.getfield 282, 3) := by decide +kernel
theorem dX8_passesAll_287 : decode cX8_passesAll 287 = .ok (.invokevirtual 323, 3) := by decide +kernel
theorem dX8_passesAll_290 : decode cX8_passesAll 290 = .ok (.putfield 282, 3) := by decide +kernel
theorem dX8_passesAll_293 : decode cX8_passesAll 293 = .ok (.aload_n 0, 1) := by decide +kernel
theorem dX8_passesAll_294 : decode cX8_passesAll 294 = .ok (.aload_n 0, 1) := by decide +kernel
theorem dX8_passesAll_295 : decode cX8_passesAll 295 = .ok (.aload_n 0, 1) := by decide +kernel
theorem dX8_passesAll_296 : decode cX8_passesAll 296 = .ok (.getfield 285, 3) := by decide +kernel
theorem dX8_passesAll_299 : decode cX8_passesAll 299 = .ok (.invokevirtual 323, 3) := by decide +kernel
theorem dX8_passesAll_302 : decode cX8_passesAll 302 = .ok (.putfield 285, 3) := by decide +kernel
theorem dX8_passesAll_305 : decode cX8_passesAll 305 = .ok (.aload_n 0, 1) := by decide +kernel
theorem dX8_passesAll_306 : decode cX8_passesAll 306 = .ok (.aload_n 0, 1) := by decide +kernel
theorem dX8_passesAll_307 : decode cX8_passesAll 307 = .ok (.aload_n 0, 1) := by decide +kernel
theorem dX8_passesAll_308 : decode cX8_passesAll 308 = .ok (.getfield 307, 3) := by decide +kernel
theorem dX8_passesAll_311 : decode cX8_passesAll 311 = .ok (.invokevirtual 323, 3) := by decide +kernel
theorem dX8_passesAll_314 : decode cX8_passesAll 314 = .ok (.putfield 307, 3) := by decide +kernel
theorem dX8_passesAll_317 : decode cX8_passesAll 317 = .ok (.return_, 1) := by decide +kernel
theorem dX8_image_0 : decode cX8_image 0 = .ok (.aload_n 0, 1) := by decide +kernel
theorem dX8_image_1 : decode cX8_image 1 = .ok (.iconst 1, 1) := by decide +kernel
theorem dX8_image_2 : decode cX8_image 2 = .ok (.putfield 313, 3) := by decide +kernel
theorem dX8_image_5 : decode cX8_image 5 = .ok (.aload_n 0, 1) := by decide +kernel
theorem dX8_image_6 : decode cX8_image 6 = .ok (.iconst 1, 1) := by decide +kernel
theorem dX8_image_7 : decode cX8_image 7 = .ok (.putfield 326, 3) := by decide +kernel
theorem dX8_image_10 : decode cX8_image 10 = .ok (.aload_n 0, 1) := by decide +kernel
theorem dX8_image_11 : decode cX8_image 11 = .ok (.invokevirtual 329, 3) := by decide +kernel
theorem dX8_image_14 : decode cX8_image 14 = .ok (.aload_n 0, 1) := by decide +kernel
theorem dX8_image_15 : decode cX8_image 15 = .ok (.aload_n 0, 1) := by decide +kernel
theorem dX8_image_16 : decode cX8_image 16 = .ok (.getfield 265, 3) := by decide +kernel
theorem dX8_image_19 : decode cX8_image 19 = .ok (.putfield 332, 3) := by decide +kernel
theorem dX8_image_22 : decode cX8_image 22 = .ok (.aload_n 0, 1) := by decide +kernel
theorem dX8_image_23 : decode cX8_image 23 = .ok (.getfield 123, 3) := by decide +kernel
theorem dX8_image_26 : decode cX8_image 26 = .ok (.ireturn, 1) := by decide +kernel
theorem dX8_restore_0 : decode cX8_restore 0 = .ok (.aload_n 0, 1) := by decide +kernel
theorem dX8_restore_1 : decode cX8_restore 1 = .ok (.getfield 326, 3) := by decide +kernel
theorem dX8_restore_4 : decode cX8_restore 4 = .ok (.ifCond .ne 10, 3) := by decide +kernel
theorem dX8_restore_7 : decode cX8_restore 7 = .ok (.aload_n 0, 1) := by decide +kernel
theorem dX8_restore_8 : decode cX8_restore 8 = .ok (.bipush (-3), 2) := by decide +kernel
theorem dX8_restore_10 : decode cX8_restore 10 = .ok (.invokevirtual 93, 3) := by decide +kernel
theorem dX8_restore_13 : decode cX8_restore 13 = .ok (.ireturn, 1) := by decide +kernel
theorem dX8_restore_14 : decode cX8_restore 14 = .ok (.aload_n 0, 1) := by decide +kernel
theorem dX8_restore_15 : decode cX8_restore 15 = .ok (.iconst 0, 1) := by decide +kernel
theorem dX8_restore_16 : decode cX8_restore 16 = .ok (.putfield 313, 3) := by decide +kernel
theorem dX8_restore_19 : decode cX8_restore 19 = .ok (.aload_n 0, 1) := by decide +kernel
theorem dX8_restore_20 : decode cX8_restore 20 = .ok (.invokevirtual 329, 3) := by decide +kernel
theorem dX8_restore_23 : decode cX8_restore 23 = .ok (.aload_n 0, 1) := by decide +kernel
theorem dX8_restore_24 : decode cX8_restore 24 = .ok (.aload_n 0, 1) := by decide +kernel
theorem dX8_restore_25 : decode cX8_restore 25 = .ok (.getfield 332, 3) := by decide +kernel
theorem dX8_restore_28 : decode cX8_restore 28 = .ok (.putfield 265, 3) := by decide +kernel
theorem dX8_restore_31 : decode cX8_restore 31 = .ok (.aload_n 0, 1) := by decide +kernel
theorem dX8_restore_32 : decode cX8_restore 32 = .ok (.getfield 123, 3) := by decide +kernel
theorem dX8_restore_35 : decode cX8_restore 35 = .ok (.ireturn, 1) := by decide +kernel
theorem dX8_count_0 : decode cX8_count 0 = .ok (.iload_n 1, 1) := by decide +kernel
theorem dX8_count_1 : decode cX8_count 1 = .ok (.bipush 11, 2) := by decide +kernel
theorem dX8_count_3 : decode cX8_count 3 = .ok (.bipush 16, 2) := by decide +kernel
theorem dX8_count_5 : decode cX8_count 5 = .ok (.invokestatic 106, 3) := by decide +kernel
theorem dX8_count_8 : decode cX8_count 8 = .ok (.ifCond .eq 13, 3) := by decide +kernel
theorem dX8_count_11 : decode cX8_count 11 = .ok (.aload_n 0, 1) := by decide +kernel
theorem dX8_count_12 : decode cX8_count 12 = .ok (.getfield 7, 3) := by decide +kernel
theorem dX8_count_15 : decode cX8_count 15 = .ok (.iload_n 1, 1) := by decide +kernel
theorem dX8_count_16 : decode cX8_count 16 = .ok (.bipush 10, 2) := by decide +kernel
theorem dX8_count_18 : decode cX8_count 18 = .ok (.isub, 1) := by decide +kernel
theorem dX8_count_19 : decode cX8_count 19 = .ok (.iaload, 1) := by decide +kernel
theorem dX8_count_20 : decode cX8_count 20 = .ok (.ireturn, 1) := by decide +kernel
theorem dX8_count_21 : decode cX8_count 21 = .ok (.iload_n 1, 1) := by decide +kernel
theorem dX8_count_22 : decode cX8_count 22 = .ok (.tableswitch 77 0 6 #[42, 47, 52, 57, 62, 67, 72], 42) := by decide +kernel
theorem dX8_count_64 : decode cX8_count 64 = .ok (.aload_n 0, 1) := by decide +kernel
theorem dX8_count_65 : decode cX8_count 65 = .ok (.getfield 123, 3) := by decide +kernel
theorem dX8_count_68 : decode cX8_count 68 = .ok (.ireturn, 1) := by decide +kernel
theorem dX8_count_69 : decode cX8_count 69 = .ok (.aload_n 0, 1) := by decide +kernel
theorem dX8_count_70 : decode cX8_count 70 = .ok (.getfield 155, 3) := by decide +kernel
theorem dX8_count_73 : decode cX8_count 73 = .ok (.ireturn, 1) := by decide +kernel
theorem dX8_count_74 : decode cX8_count 74 = .ok (.aload_n 0, 1) := by decide +kernel
theorem dX8_count_75 : decode cX8_count 75 = .ok (.getfield 282, 3) := by decide +kernel
theorem dX8_count_78 : decode cX8_count 78 = .ok (.ireturn, 1) := by decide +kernel
theorem dX8_count_79 : decode cX8_count 79 = .ok (.aload_n 0, 1) := by decide +kernel
theorem dX8_count_80 : decode cX8_count 80 = .ok (.invokevirtual 304, 3) := by decide +kernel
theorem dX8_count_83 : decode cX8_count 83 = .ok (.ireturn, 1) := by decide +kernel
theorem dX8_count_84 : decode cX8_count 84 = .ok (.aload_n 0, 1) := by decide +kernel
theorem dX8_count_85 : decode cX8_count 85 = .ok (.getfield 307, 3) := by decide +kernel
theorem dX8_count_88 : decode cX8_count 88 = .ok (.ireturn, 1) := by decide +kernel
theorem dX8_count_89 : decode cX8_count 89 = .ok (.aload_n 0, 1) := by decide +kernel
theorem dX8_count_90 : decode cX8_count 90 = .ok (.getfield 90, 3) := by decide +kernel
theorem dX8_count_93 : decode cX8_count 93 = .ok (.ireturn, 1) := by decide +kernel
theorem dX8_count_94 : decode cX8_count 94 = .ok (.aload_n 0, 1) := by decide +kernel
theorem dX8_count_95 : decode cX8_count 95 = .ok (.getfield 37, 3) := by decide +kernel
theorem dX8_count_98 : decode cX8_count 98 = .ok (.ireturn, 1) := by decide +kernel
theorem dX8_count_99 : decode cX8_count 99 = .ok (.bipush (-9), 2) := by decide +kernel
theorem dX8_count_101 : decode cX8_count 101 = .ok (.ireturn, 1) := by decide +kernel
