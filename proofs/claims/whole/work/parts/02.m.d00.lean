theorem dX8_init_0 : decode cX8_init 0 = .ok (.aload_n 0, 1) := by decide +kernel
theorem dX8_init_1 : decode cX8_init 1 = .ok (.invokespecial 1, 3) := by decide +kernel
theorem dX8_init_4 : decode cX8_init 4 = .ok (.aload_n 0, 1) := by decide +kernel
theorem dX8_init_5 : decode cX8_init 5 = .ok (.bipush 7, 2) := by decide +kernel
theorem dX8_init_7 : decode cX8_init 7 = .ok (.newarray .int, 2) := by decide +kernel
theorem dX8_init_9 : decode cX8_init 9 = .ok (.putfield 7, 3) := by decide +kernel
theorem dX8_init_12 : decode cX8_init 12 = .ok (.aload_n 0, 1) := by decide +kernel
theorem dX8_init_13 : decode cX8_init 13 = .ok (.bipush 20, 2) := by decide +kernel
theorem dX8_init_15 : decode cX8_init 15 = .ok (.newarray .int, 2) := by decide +kernel
theorem dX8_init_17 : decode cX8_init 17 = .ok (.putfield 13, 3) := by decide +kernel
theorem dX8_init_20 : decode cX8_init 20 = .ok (.aload_n 0, 1) := by decide +kernel
theorem dX8_init_21 : decode cX8_init 21 = .ok (.bipush 7, 2) := by decide +kernel
theorem dX8_init_23 : decode cX8_init 23 = .ok (.newarray .int, 2) := by decide +kernel
theorem dX8_init_25 : decode cX8_init 25 = .ok (.putfield 16, 3) := by decide +kernel
theorem dX8_init_28 : decode cX8_init 28 = .ok (.aload_n 0, 1) := by decide +kernel
theorem dX8_init_29 : decode cX8_init 29 = .ok (.bipush 7, 2) := by decide +kernel
theorem dX8_init_31 : decode cX8_init 31 = .ok (.newarray .int, 2) := by decide +kernel
theorem dX8_init_33 : decode cX8_init 33 = .ok (.putfield 19, 3) := by decide +kernel
theorem dX8_init_36 : decode cX8_init 36 = .ok (.aload_n 0, 1) := by decide +kernel
theorem dX8_init_37 : decode cX8_init 37 = .ok (.bipush 7, 2) := by decide +kernel
theorem dX8_init_39 : decode cX8_init 39 = .ok (.newarray .int, 2) := by decide +kernel
theorem dX8_init_41 : decode cX8_init 41 = .ok (.putfield 22, 3) := by decide +kernel
theorem dX8_init_44 : decode cX8_init 44 = .ok (.aload_n 0, 1) := by decide +kernel
theorem dX8_init_45 : decode cX8_init 45 = .ok (.bipush 7, 2) := by decide +kernel
theorem dX8_init_47 : decode cX8_init 47 = .ok (.newarray .int, 2) := by decide +kernel
theorem dX8_init_49 : decode cX8_init 49 = .ok (.putfield 25, 3) := by decide +kernel
theorem dX8_init_52 : decode cX8_init 52 = .ok (.aload_n 0, 1) := by decide +kernel
theorem dX8_init_53 : decode cX8_init 53 = .ok (.bipush 7, 2) := by decide +kernel
theorem dX8_init_55 : decode cX8_init 55 = .ok (.newarray .int, 2) := by decide +kernel
theorem dX8_init_57 : decode cX8_init 57 = .ok (.putfield 28, 3) := by decide +kernel
theorem dX8_init_60 : decode cX8_init 60 = .ok (.aload_n 0, 1) := by decide +kernel
theorem dX8_init_61 : decode cX8_init 61 = .ok (.iconst 4, 1) := by decide +kernel
theorem dX8_init_62 : decode cX8_init 62 = .ok (.newarray .int, 2) := by decide +kernel
theorem dX8_init_64 : decode cX8_init 64 = .ok (.putfield 31, 3) := by decide +kernel
theorem dX8_init_67 : decode cX8_init 67 = .ok (.aload_n 0, 1) := by decide +kernel
theorem dX8_init_68 : decode cX8_init 68 = .ok (.iconst 4, 1) := by decide +kernel
theorem dX8_init_69 : decode cX8_init 69 = .ok (.newarray .int, 2) := by decide +kernel
theorem dX8_init_71 : decode cX8_init 71 = .ok (.putfield 34, 3) := by decide +kernel
theorem dX8_init_74 : decode cX8_init 74 = .ok (.aload_n 0, 1) := by decide +kernel
theorem dX8_init_75 : decode cX8_init 75 = .ok (.iconst 1, 1) := by decide +kernel
theorem dX8_init_76 : decode cX8_init 76 = .ok (.putfield 37, 3) := by decide +kernel
theorem dX8_init_79 : decode cX8_init 79 = .ok (.aload_n 0, 1) := by decide +kernel
theorem dX8_init_80 : decode cX8_init 80 = .ok (.bipush 9, 2) := by decide +kernel
theorem dX8_init_82 : decode cX8_init 82 = .ok (.newarray .int, 2) := by decide +kernel
theorem dX8_init_84 : decode cX8_init 84 = .ok (.putfield 41, 3) := by decide +kernel
theorem dX8_init_87 : decode cX8_init 87 = .ok (.aload_n 0, 1) := by decide +kernel
theorem dX8_init_88 : decode cX8_init 88 = .ok (.bipush 9, 2) := by decide +kernel
theorem dX8_init_90 : decode cX8_init 90 = .ok (.newarray .int, 2) := by decide +kernel
theorem dX8_init_92 : decode cX8_init 92 = .ok (.putfield 44, 3) := by decide +kernel
theorem dX8_init_95 : decode cX8_init 95 = .ok (.aload_n 0, 1) := by decide +kernel
theorem dX8_init_96 : decode cX8_init 96 = .ok (.bipush 9, 2) := by decide +kernel
theorem dX8_init_98 : decode cX8_init 98 = .ok (.newarray .int, 2) := by decide +kernel
theorem dX8_init_100 : decode cX8_init 100 = .ok (.putfield 47, 3) := by decide +kernel
theorem dX8_init_103 : decode cX8_init 103 = .ok (.aload_n 0, 1) := by decide +kernel
theorem dX8_init_104 : decode cX8_init 104 = .ok (.bipush 9, 2) := by decide +kernel
theorem dX8_init_106 : decode cX8_init 106 = .ok (.newarray .int, 2) := by decide +kernel
theorem dX8_init_108 : decode cX8_init 108 = .ok (.putfield 50, 3) := by decide +kernel
theorem dX8_init_111 : decode cX8_init 111 = .ok (.aload_n 0, 1) := by decide +kernel
theorem dX8_init_112 : decode cX8_init 112 = .ok (.sipush 300, 3) := by decide +kernel
theorem dX8_init_115 : decode cX8_init 115 = .ok (.newarray .int, 2) := by decide +kernel
theorem dX8_init_117 : decode cX8_init 117 = .ok (.putfield 53, 3) := by decide +kernel
theorem dX8_init_120 : decode cX8_init 120 = .ok (.aload_n 0, 1) := by decide +kernel
theorem dX8_init_121 : decode cX8_init 121 = .ok (.bipush 10, 2) := by decide +kernel
theorem dX8_init_123 : decode cX8_init 123 = .ok (.newarray .int, 2) := by decide +kernel
theorem dX8_init_125 : decode cX8_init 125 = .ok (.putfield 56, 3) := by decide +kernel
theorem dX8_init_128 : decode cX8_init 128 = .ok (.aload_n 0, 1) := by decide +kernel
theorem dX8_init_129 : decode cX8_init 129 = .ok (.bipush 24, 2) := by decide +kernel
theorem dX8_init_131 : decode cX8_init 131 = .ok (.newarray .int, 2) := by decide +kernel
theorem dX8_init_133 : decode cX8_init 133 = .ok (.putfield 59, 3) := by decide +kernel
theorem dX8_init_136 : decode cX8_init 136 = .ok (.aload_n 0, 1) := by decide +kernel
theorem dX8_init_137 : decode cX8_init 137 = .ok (.bipush 24, 2) := by decide +kernel
theorem dX8_init_139 : decode cX8_init 139 = .ok (.newarray .int, 2) := by decide +kernel
theorem dX8_init_141 : decode cX8_init 141 = .ok (.putfield 62, 3) := by decide +kernel
theorem dX8_init_144 : decode cX8_init 144 = .ok (.aload_n 0, 1) := by decide +kernel
theorem dX8_init_145 : decode cX8_init 145 = .ok (.bipush 9, 2) := by decide +kernel
theorem dX8_init_147 : decode cX8_init 147 = .ok (.newarray .int, 2) := by decide +kernel
theorem dX8_init_149 : decode cX8_init 149 = .ok (.putfield 65, 3) := by decide +kernel
theorem dX8_init_152 : decode cX8_init 152 = .ok (.aload_n 0, 1) := by decide +kernel
theorem dX8_init_153 : decode cX8_init 153 = .ok (.bipush 100, 2) := by decide +kernel
theorem dX8_init_155 : decode cX8_init 155 = .ok (.newarray .int, 2) := by decide +kernel
theorem dX8_init_157 : decode cX8_init 157 = .ok (.putfield 68, 3) := by decide +kernel
theorem dX8_init_160 : decode cX8_init 160 = .ok (.aload_n 0, 1) := by decide +kernel
theorem dX8_init_161 : decode cX8_init 161 = .ok (.bipush 100, 2) := by decide +kernel
theorem dX8_init_163 : decode cX8_init 163 = .ok (.newarray .int, 2) := by decide +kernel
theorem dX8_init_165 : decode cX8_init 165 = .ok (.putfield 71, 3) := by decide +kernel
theorem dX8_init_168 : decode cX8_init 168 = .ok (.aload_n 0, 1) := by decide +kernel
theorem dX8_init_169 : decode cX8_init 169 = .ok (.bipush 24, 2) := by decide +kernel
theorem dX8_init_171 : decode cX8_init 171 = .ok (.newarray .int, 2) := by decide +kernel
theorem dX8_init_173 : decode cX8_init 173 = .ok (.putfield 74, 3) := by decide +kernel
theorem dX8_init_176 : decode cX8_init 176 = .ok (.aload_n 0, 1) := by decide +kernel
theorem dX8_init_177 : decode cX8_init 177 = .ok (.iconst 4, 1) := by decide +kernel
theorem dX8_init_178 : decode cX8_init 178 = .ok (.newarray .int, 2) := by decide +kernel
theorem dX8_init_180 : decode cX8_init 180 = .ok (.putfield 77, 3) := by decide +kernel
theorem dX8_init_183 : decode cX8_init 183 = .ok (.aload_n 0, 1) := by decide +kernel
theorem dX8_init_184 : decode cX8_init 184 = .ok (.iconst 4, 1) := by decide +kernel
theorem dX8_init_185 : decode cX8_init 185 = .ok (.newarray .int, 2) := by decide +kernel
theorem dX8_init_187 : decode cX8_init 187 = .ok (.putfield 80, 3) := by decide +kernel
theorem dX8_init_190 : decode cX8_init 190 = .ok (.aload_n 0, 1) := by decide +kernel
theorem dX8_init_191 : decode cX8_init 191 = .ok (.sipush 800, 3) := by decide +kernel
theorem dX8_init_194 : decode cX8_init 194 = .ok (.newarray .int, 2) := by decide +kernel
theorem dX8_init_196 : decode cX8_init 196 = .ok (.putfield 83, 3) := by decide +kernel
theorem dX8_init_199 : decode cX8_init 199 = .ok (.iconst 0, 1) := by decide +kernel
theorem dX8_init_200 : decode cX8_init 200 = .ok (.istore_n 1, 1) := by decide +kernel
theorem dX8_init_201 : decode cX8_init 201 = .ok (.iload_n 1, 1) := by decide +kernel
theorem dX8_init_202 : decode cX8_init 202 = .ok (.iconst 4, 1) := by decide +kernel
theorem dX8_init_203 : decode cX8_init 203 = .ok (.if_icmp .ge 17, 3) := by decide +kernel
theorem dX8_init_206 : decode cX8_init 206 = .ok (.aload_n 0, 1) := by decide +kernel
theorem dX8_init_207 : decode cX8_init 207 = .ok (.getfield 31, 3) := by decide +kernel
theorem dX8_init_210 : decode cX8_init 210 = .ok (.iload_n 1, 1) := by decide +kernel
theorem dX8_init_211 : decode cX8_init 211 = .ok (.bipush 9, 2) := by decide +kernel
theorem dX8_init_213 : decode cX8_init 213 = .ok (.iastore, 1) := by decide +kernel
theorem dX8_init_214 : decode cX8_init 214 = .ok (.iinc 1 1, 3) := by decide +kernel
theorem dX8_init_217 : decode cX8_init 217 = .ok (.goto (-16), 3) := by decide +kernel
theorem dX8_init_220 : decode cX8_init 220 = .ok (.return_, 1) := by decide +kernel
theorem dX8_no_0 : decode cX8_no 0 = .ok (.aload_n 0, 1) := by decide +kernel
theorem dX8_no_1 : decode cX8_no 1 = .ok (.getfield 7, 3) := by decide +kernel
theorem dX8_no_4 : decode cX8_no 4 = .ok (.iload_n 1, 1) := by decide +kernel
theorem dX8_no_5 : decode cX8_no 5 = .ok (.ineg, 1) := by decide +kernel
theorem dX8_no_6 : decode cX8_no 6 = .ok (.dup2, 1) := by decide +kernel
theorem dX8_no_7 : decode cX8_no 7 = .ok (.iaload, 1) := by decide +kernel
theorem dX8_no_8 : decode cX8_no 8 = .ok (.iconst 1, 1) := by decide +kernel
theorem dX8_no_9 : decode cX8_no 9 = .ok (.iadd, 1) := by decide +kernel
theorem dX8_no_10 : decode cX8_no 10 = .ok (.iastore, 1) := by decide +kernel
theorem dX8_no_11 : decode cX8_no 11 = .ok (.iload_n 1, 1) := by decide +kernel
theorem dX8_no_12 : decode cX8_no 12 = .ok (.ireturn, 1) := by decide +kernel
theorem dX8_isIn_0 : decode cX8_isIn 0 = .ok (.iload_n 0, 1) := by decide +kernel
theorem dX8_isIn_1 : decode cX8_isIn 1 = .ok (.iload_n 1, 1) := by decide +kernel
theorem dX8_isIn_2 : decode cX8_isIn 2 = .ok (.if_icmp .lt 12, 3) := by decide +kernel
theorem dX8_isIn_5 : decode cX8_isIn 5 = .ok (.iload_n 0, 1) := by decide +kernel
theorem dX8_isIn_6 : decode cX8_isIn 6 = .ok (.iload_n 2, 1) := by decide +kernel
theorem dX8_isIn_7 : decode cX8_isIn 7 = .ok (.if_icmp .gt 7, 3) := by decide +kernel
theorem dX8_isIn_10 : decode cX8_isIn 10 = .ok (.iconst 1, 1) := by decide +kernel
theorem dX8_isIn_11 : decode cX8_isIn 11 = .ok (.goto 4, 3) := by decide +kernel
theorem dX8_isIn_14 : decode cX8_isIn 14 = .ok (.iconst 0, 1) := by decide +kernel
theorem dX8_isIn_15 : decode cX8_isIn 15 = .ok (.ireturn, 1) := by decide +kernel
theorem dX8_bound_0 : decode cX8_bound 0 = .ok (.iload_n 0, 1) := by decide +kernel
theorem dX8_bound_1 : decode cX8_bound 1 = .ok (.iload_n 1, 1) := by decide +kernel
theorem dX8_bound_2 : decode cX8_bound 2 = .ok (.if_icmp .ge 8, 3) := by decide +kernel
theorem dX8_bound_5 : decode cX8_bound 5 = .ok (.bipush (-4), 2) := by decide +kernel
theorem dX8_bound_7 : decode cX8_bound 7 = .ok (.goto 14, 3) := by decide +kernel
theorem dX8_bound_10 : decode cX8_bound 10 = .ok (.iload_n 0, 1) := by decide +kernel
theorem dX8_bound_11 : decode cX8_bound 11 = .ok (.iload_n 2, 1) := by decide +kernel
theorem dX8_bound_12 : decode cX8_bound 12 = .ok (.if_icmp .le 8, 3) := by decide +kernel
theorem dX8_bound_15 : decode cX8_bound 15 = .ok (.bipush (-6), 2) := by decide +kernel
theorem dX8_bound_17 : decode cX8_bound 17 = .ok (.goto 4, 3) := by decide +kernel
theorem dX8_bound_20 : decode cX8_bound 20 = .ok (.iconst 0, 1) := by decide +kernel
theorem dX8_bound_21 : decode cX8_bound 21 = .ok (.ireturn, 1) := by decide +kernel
theorem dX8_bounds_0 : decode cX8_bounds 0 = .ok (.iload_n 0, 1) := by decide +kernel
theorem dX8_bounds_1 : decode cX8_bounds 1 = .ok (.ifCond .lt 7, 3) := by decide +kernel
theorem dX8_bounds_4 : decode cX8_bounds 4 = .ok (.iload_n 2, 1) := by decide +kernel
theorem dX8_bounds_5 : decode cX8_bounds 5 = .ok (.ifCond .ge 8, 3) := by decide +kernel
theorem dX8_bounds_8 : decode cX8_bounds 8 = .ok (.bipush (-4), 2) := by decide +kernel
theorem dX8_bounds_10 : decode cX8_bounds 10 = .ok (.goto 19, 3) := by decide +kernel
theorem dX8_bounds_13 : decode cX8_bounds 13 = .ok (.iload_n 0, 1) := by decide +kernel
theorem dX8_bounds_14 : decode cX8_bounds 14 = .ok (.iload_n 1, 1) := by decide +kernel
theorem dX8_bounds_15 : decode cX8_bounds 15 = .ok (.if_icmp .gt 8, 3) := by decide +kernel
theorem dX8_bounds_18 : decode cX8_bounds 18 = .ok (.iload_n 2, 1) := by decide +kernel
theorem dX8_bounds_19 : decode cX8_bounds 19 = .ok (.iload_n 3, 1) := by decide +kernel
theorem dX8_bounds_20 : decode cX8_bounds 20 = .ok (.if_icmp .le 8, 3) := by decide +kernel
theorem dX8_bounds_23 : decode cX8_bounds 23 = .ok (.bipush (-6), 2) := by decide +kernel
theorem dX8_bounds_25 : decode cX8_bounds 25 = .ok (.goto 4, 3) := by decide +kernel
theorem dX8_bounds_28 : decode cX8_bounds 28 = .ok (.iconst 0, 1) := by decide +kernel
theorem dX8_bounds_29 : decode cX8_bounds 29 = .ok (.ireturn, 1) := by decide +kernel
theorem dX8_feed_0 : decode cX8_feed 0 = .ok (.iload_n 1, 1) := by decide +kernel
theorem dX8_feed_1 : decode cX8_feed 1 = .ok (.iconst 1, 1) := by decide +kernel
theorem dX8_feed_2 : decode cX8_feed 2 = .ok (.bipush 8, 2) := by decide +kernel
theorem dX8_feed_4 : decode cX8_feed 4 = .ok (.invokestatic 86, 3) := by decide +kernel
theorem dX8_feed_7 : decode cX8_feed 7 = .ok (.istore 4, 2) := by decide +kernel
theorem dX8_feed_9 : decode cX8_feed 9 = .ok (.iload 4, 2) := by decide +kernel
theorem dX8_feed_11 : decode cX8_feed 11 = .ok (.ifCond .ne 18, 3) := by decide +kernel
theorem dX8_feed_14 : decode cX8_feed 14 = .ok (.aload_n 0, 1) := by decide +kernel
theorem dX8_feed_15 : decode cX8_feed 15 = .ok (.getfield 90, 3) := by decide +kernel
theorem dX8_feed_18 : decode cX8_feed 18 = .ok (.iload_n 1, 1) := by decide +kernel
theorem dX8_feed_19 : decode cX8_feed 19 = .ok (.iadd, 1) := by decide +kernel
theorem dX8_feed_20 : decode cX8_feed 20 = .ok (.bipush 20, 2) := by decide +kernel
theorem dX8_feed_22 : decode cX8_feed 22 = .ok (.if_icmp .le 7, 3) := by decide +kernel
theorem dX8_feed_25 : decode cX8_feed 25 = .ok (.bipush (-6), 2) := by decide +kernel
theorem dX8_feed_27 : decode cX8_feed 27 = .ok (.istore 4, 2) := by decide +kernel
theorem dX8_feed_29 : decode cX8_feed 29 = .ok (.iload 4, 2) := by decide +kernel
theorem dX8_feed_31 : decode cX8_feed 31 = .ok (.ifCond .eq 10, 3) := by decide +kernel
theorem dX8_feed_34 : decode cX8_feed 34 = .ok (.aload_n 0, 1) := by decide +kernel
theorem dX8_feed_35 : decode cX8_feed 35 = .ok (.iload 4, 2) := by decide +kernel
theorem dX8_feed_37 : decode cX8_feed 37 = .ok (.invokevirtual 93, 3) := by decide +kernel
theorem dX8_feed_40 : decode cX8_feed 40 = .ok (.ireturn, 1) := by decide +kernel
theorem dX8_feed_41 : decode cX8_feed 41 = .ok (.iconst 0, 1) := by decide +kernel
theorem dX8_feed_42 : decode cX8_feed 42 = .ok (.istore 5, 2) := by decide +kernel
theorem dX8_feed_44 : decode cX8_feed 44 = .ok (.iload 5, 2) := by decide +kernel
theorem dX8_feed_46 : decode cX8_feed 46 = .ok (.iload_n 1, 1) := by decide +kernel
theorem dX8_feed_47 : decode cX8_feed 47 = .ok (.if_icmp .ge 40, 3) := by decide +kernel
theorem dX8_feed_50 : decode cX8_feed 50 = .ok (.aload_n 0, 1) := by decide +kernel
theorem dX8_feed_51 : decode cX8_feed 51 = .ok (.getfield 13, 3) := by decide +kernel
theorem dX8_feed_54 : decode cX8_feed 54 = .ok (.aload_n 0, 1) := by decide +kernel
theorem dX8_feed_55 : decode cX8_feed 55 = .ok (.getfield 90, 3) := by decide +kernel
theorem dX8_feed_58 : decode cX8_feed 58 = .ok (.lload_n 2, 1) := by decide +kernel
theorem dX8_feed_59 : decode cX8_feed 59 = .ok (.bipush 8, 2) := by decide +kernel
theorem dX8_feed_61 : decode cX8_feed 61 = .ok (.iload 5, 2) := by decide +kernel
theorem dX8_feed_63 : decode cX8_feed 63 = .ok (.imul, 1) := by decide +kernel
theorem dX8_feed_64 : decode cX8_feed 64 = .ok (.lshr, 1) := by decide +kernel
theorem dX8_feed_65 : decode cX8_feed 65 = .ok (.ldc2_w 97, 3) := by decide +kernel
theorem dX8_feed_68 : decode cX8_feed 68 = .ok (.land, 1) := by decide +kernel
theorem dX8_feed_69 : decode cX8_feed 69 = .ok (.l2i, 1) := by decide +kernel
theorem dX8_feed_70 : decode cX8_feed 70 = .ok (.iastore, 1) := by decide +kernel
theorem dX8_feed_71 : decode cX8_feed 71 = .ok (.aload_n 0, 1) := by decide +kernel
theorem dX8_feed_72 : decode cX8_feed 72 = .ok (.dup, 1) := by decide +kernel
theorem dX8_feed_73 : decode cX8_feed 73 = .ok (.getfield 90, 3) := by decide +kernel
theorem dX8_feed_76 : decode cX8_feed 76 = .ok (.iconst 1, 1) := by decide +kernel
theorem dX8_feed_77 : decode cX8_feed 77 = .ok (.iadd, 1) := by decide +kernel
theorem dX8_feed_78 : decode cX8_feed 78 = .ok (.putfield 90, 3) := by decide +kernel
theorem dX8_feed_81 : decode cX8_feed 81 = .ok (.iinc 5 1, 3) := by decide +kernel
theorem dX8_feed_84 : decode cX8_feed 84 = .ok (.goto (-40), 3) := by decide +kernel
theorem dX8_feed_87 : decode cX8_feed 87 = .ok (.aload_n 0, 1) := by decide +kernel
theorem dX8_feed_88 : decode cX8_feed 88 = .ok (.getfield 90, 3) := by decide +kernel
theorem dX8_feed_91 : decode cX8_feed 91 = .ok (.ireturn, 1) := by decide +kernel
theorem dX8_sign_0 : decode cX8_sign 0 = .ok (.aload_n 0, 1) := by decide +kernel
theorem dX8_sign_1 : decode cX8_sign 1 = .ok (.getfield 99, 3) := by decide +kernel
theorem dX8_sign_4 : decode cX8_sign 4 = .ok (.aload_n 0, 1) := by decide +kernel
theorem dX8_sign_5 : decode cX8_sign 5 = .ok (.getfield 90, 3) := by decide +kernel
theorem dX8_sign_8 : decode cX8_sign 8 = .ok (.if_icmp .ge 15, 3) := by decide +kernel
theorem dX8_sign_11 : decode cX8_sign 11 = .ok (.aload_n 0, 1) := by decide +kernel
theorem dX8_sign_12 : decode cX8_sign 12 = .ok (.getfield 13, 3) := by decide +kernel
theorem dX8_sign_15 : decode cX8_sign 15 = .ok (.aload_n 0, 1) := by decide +kernel
theorem dX8_sign_16 : decode cX8_sign 16 = .ok (.getfield 99, 3) := by decide +kernel
theorem dX8_sign_19 : decode cX8_sign 19 = .ok (.iaload, 1) := by decide +kernel
theorem dX8_sign_20 : decode cX8_sign 20 = .ok (.goto 4, 3) := by decide +kernel
theorem dX8_sign_23 : decode cX8_sign 23 = .ok (.iconst (-1), 1) := by decide +kernel
theorem dX8_sign_24 : decode cX8_sign 24 = .ok (.ireturn, 1) := by decide +kernel
theorem dX8_isDigit_0 : decode cX8_isDigit 0 = .ok (.aload_n 0, 1) := by decide +kernel
theorem dX8_isDigit_1 : decode cX8_isDigit 1 = .ok (.invokevirtual 102, 3) := by decide +kernel
theorem dX8_isDigit_4 : decode cX8_isDigit 4 = .ok (.bipush 48, 2) := by decide +kernel
theorem dX8_isDigit_6 : decode cX8_isDigit 6 = .ok (.bipush 57, 2) := by decide +kernel
theorem dX8_isDigit_8 : decode cX8_isDigit 8 = .ok (.invokestatic 106, 3) := by decide +kernel
theorem dX8_isDigit_11 : decode cX8_isDigit 11 = .ok (.ireturn, 1) := by decide +kernel
theorem dX8_number_0 : decode cX8_number 0 = .ok (.aload_n 0, 1) := by decide +kernel
theorem dX8_number_1 : decode cX8_number 1 = .ok (.invokevirtual 110, 3) := by decide +kernel
theorem dX8_number_4 : decode cX8_number 4 = .ok (.ifCond .ne 5, 3) := by decide +kernel
theorem dX8_number_7 : decode cX8_number 7 = .ok (.iconst (-1), 1) := by decide +kernel
theorem dX8_number_8 : decode cX8_number 8 = .ok (.ireturn, 1) := by decide +kernel
theorem dX8_number_9 : decode cX8_number 9 = .ok (.aload_n 0, 1) := by decide +kernel
theorem dX8_number_10 : decode cX8_number 10 = .ok (.invokevirtual 102, 3) := by decide +kernel
theorem dX8_number_13 : decode cX8_number 13 = .ok (.bipush 48, 2) := by decide +kernel
theorem dX8_number_15 : decode cX8_number 15 = .ok (.isub, 1) := by decide +kernel
theorem dX8_number_16 : decode cX8_number 16 = .ok (.istore_n 1, 1) := by decide +kernel
theorem dX8_number_17 : decode cX8_number 17 = .ok (.aload_n 0, 1) := by decide +kernel
theorem dX8_number_18 : decode cX8_number 18 = .ok (.dup, 1) := by decide +kernel
theorem dX8_number_19 : decode cX8_number 19 = .ok (.getfield 99, 3) := by decide +kernel
theorem dX8_number_22 : decode cX8_number 22 = .ok (.iconst 1, 1) := by decide +kernel
theorem dX8_number_23 : decode cX8_number 23 = .ok (.iadd, 1) := by decide +kernel
theorem dX8_number_24 : decode cX8_number 24 = .ok (.putfield 99, 3) := by decide +kernel
theorem dX8_number_27 : decode cX8_number 27 = .ok (.iconst 1, 1) := by decide +kernel
theorem dX8_number_28 : decode cX8_number 28 = .ok (.istore_n 2, 1) := by decide +kernel
theorem dX8_number_29 : decode cX8_number 29 = .ok (.iload_n 2, 1) := by decide +kernel
theorem dX8_number_30 : decode cX8_number 30 = .ok (.iconst 3, 1) := by decide +kernel
theorem dX8_number_31 : decode cX8_number 31 = .ok (.if_icmp .ge 43, 3) := by decide +kernel
theorem dX8_number_34 : decode cX8_number 34 = .ok (.iload_n 1, 1) := by decide +kernel
theorem dX8_number_35 : decode cX8_number 35 = .ok (.ifCond .le 39, 3) := by decide +kernel
theorem dX8_number_38 : decode cX8_number 38 = .ok (.aload_n 0, 1) := by decide +kernel
theorem dX8_number_39 : decode cX8_number 39 = .ok (.invokevirtual 110, 3) := by decide +kernel
theorem dX8_number_42 : decode cX8_number 42 = .ok (.ifCond .eq 32, 3) := by decide +kernel
theorem dX8_number_45 : decode cX8_number 45 = .ok (.bipush 10, 2) := by decide +kernel
theorem dX8_number_47 : decode cX8_number 47 = .ok (.iload_n 1, 1) := by decide +kernel
theorem dX8_number_48 : decode cX8_number 48 = .ok (.imul, 1) := by decide +kernel
theorem dX8_number_49 : decode cX8_number 49 = .ok (.aload_n 0, 1) := by decide +kernel
theorem dX8_number_50 : decode cX8_number 50 = .ok (.invokevirtual 102, 3) := by decide +kernel
theorem dX8_number_53 : decode cX8_number 53 = .ok (.iadd, 1) := by decide +kernel
theorem dX8_number_54 : decode cX8_number 54 = .ok (.bipush 48, 2) := by decide +kernel
theorem dX8_number_56 : decode cX8_number 56 = .ok (.isub, 1) := by decide +kernel
theorem dX8_number_57 : decode cX8_number 57 = .ok (.istore_n 1, 1) := by decide +kernel
theorem dX8_number_58 : decode cX8_number 58 = .ok (.aload_n 0, 1) := by decide +kernel
theorem dX8_number_59 : decode cX8_number 59 = .ok (.dup, 1) := by decide +kernel
theorem dX8_number_60 : decode cX8_number 60 = .ok (.getfield 99, 3) := by decide +kernel
theorem dX8_number_63 : decode cX8_number 63 = .ok (.iconst 1, 1) := by decide +kernel
theorem dX8_number_64 : decode cX8_number 64 = .ok (.iadd, 1) := by decide +kernel
theorem dX8_number_65 : decode cX8_number 65 = .ok (.putfield 99, 3) := by decide +kernel
theorem dX8_number_68 : decode cX8_number 68 = .ok (.iinc 2 1, 3) := by decide +kernel
theorem dX8_number_71 : decode cX8_number 71 = .ok (.goto (-42), 3) := by decide +kernel
theorem dX8_number_74 : decode cX8_number 74 = .ok (.iload_n 1, 1) := by decide +kernel
theorem dX8_number_75 : decode cX8_number 75 = .ok (.ireturn, 1) := by decide +kernel
theorem dX8_part_0 : decode cX8_part 0 = .ok (.aload_n 0, 1) := by decide +kernel
theorem dX8_part_1 : decode cX8_part 1 = .ok (.invokevirtual 102, 3) := by decide +kernel
theorem dX8_part_4 : decode cX8_part 4 = .ok (.iload_n 1, 1) := by decide +kernel
theorem dX8_part_5 : decode cX8_part 5 = .ok (.if_icmp .eq 5, 3) := by decide +kernel
theorem dX8_part_8 : decode cX8_part 8 = .ok (.iconst (-1), 1) := by decide +kernel
theorem dX8_part_9 : decode cX8_part 9 = .ok (.ireturn, 1) := by decide +kernel
theorem dX8_part_10 : decode cX8_part 10 = .ok (.aload_n 0, 1) := by decide +kernel
theorem dX8_part_11 : decode cX8_part 11 = .ok (.dup, 1) := by decide +kernel
theorem dX8_part_12 : decode cX8_part 12 = .ok (.getfield 99, 3) := by decide +kernel
theorem dX8_part_15 : decode cX8_part 15 = .ok (.iconst 1, 1) := by decide +kernel
theorem dX8_part_16 : decode cX8_part 16 = .ok (.iadd, 1) := by decide +kernel
theorem dX8_part_17 : decode cX8_part 17 = .ok (.putfield 99, 3) := by decide +kernel
theorem dX8_part_20 : decode cX8_part 20 = .ok (.aload_n 0, 1) := by decide +kernel
theorem dX8_part_21 : decode cX8_part 21 = .ok (.getfield 99, 3) := by decide +kernel
theorem dX8_part_24 : decode cX8_part 24 = .ok (.istore 4, 2) := by decide +kernel
theorem dX8_part_26 : decode cX8_part 26 = .ok (.aload_n 0, 1) := by decide +kernel
theorem dX8_part_27 : decode cX8_part 27 = .ok (.invokevirtual 114, 3) := by decide +kernel
theorem dX8_part_30 : decode cX8_part 30 = .ok (.istore 5, 2) := by decide +kernel
theorem dX8_part_32 : decode cX8_part 32 = .ok (.iload 5, 2) := by decide +kernel
theorem dX8_part_34 : decode cX8_part 34 = .ok (.ifCond .lt 21, 3) := by decide +kernel
theorem dX8_part_37 : decode cX8_part 37 = .ok (.iload 5, 2) := by decide +kernel
theorem dX8_part_39 : decode cX8_part 39 = .ok (.iload_n 2, 1) := by decide +kernel
theorem dX8_part_40 : decode cX8_part 40 = .ok (.iload_n 3, 1) := by decide +kernel
theorem dX8_part_41 : decode cX8_part 41 = .ok (.invokestatic 106, 3) := by decide +kernel
theorem dX8_part_44 : decode cX8_part 44 = .ok (.ifCond .ne 11, 3) := by decide +kernel
theorem dX8_part_47 : decode cX8_part 47 = .ok (.aload_n 0, 1) := by decide +kernel
theorem dX8_part_48 : decode cX8_part 48 = .ok (.iload 4, 2) := by decide +kernel
theorem dX8_part_50 : decode cX8_part 50 = .ok (.putfield 99, 3) := by decide +kernel
theorem dX8_part_53 : decode cX8_part 53 = .ok (.iconst (-1), 1) := by decide +kernel
theorem dX8_part_54 : decode cX8_part 54 = .ok (.ireturn, 1) := by decide +kernel
theorem dX8_part_55 : decode cX8_part 55 = .ok (.iload 5, 2) := by decide +kernel
theorem dX8_part_57 : decode cX8_part 57 = .ok (.ireturn, 1) := by decide +kernel
theorem dX8_perhaps_0 : decode cX8_perhaps 0 = .ok (.aload_n 0, 1) := by decide +kernel
theorem dX8_perhaps_1 : decode cX8_perhaps 1 = .ok (.invokevirtual 102, 3) := by decide +kernel
theorem dX8_perhaps_4 : decode cX8_perhaps 4 = .ok (.iload_n 1, 1) := by decide +kernel
theorem dX8_perhaps_5 : decode cX8_perhaps 5 = .ok (.if_icmp .ne 14, 3) := by decide +kernel
theorem dX8_perhaps_8 : decode cX8_perhaps 8 = .ok (.aload_n 0, 1) := by decide +kernel
theorem dX8_perhaps_9 : decode cX8_perhaps 9 = .ok (.iload_n 1, 1) := by decide +kernel
theorem dX8_perhaps_10 : decode cX8_perhaps 10 = .ok (.iconst 0, 1) := by decide +kernel
theorem dX8_perhaps_11 : decode cX8_perhaps 11 = .ok (.bipush 9, 2) := by decide +kernel
theorem dX8_perhaps_13 : decode cX8_perhaps 13 = .ok (.invokevirtual 117, 3) := by decide +kernel
theorem dX8_perhaps_16 : decode cX8_perhaps 16 = .ok (.goto 4, 3) := by decide +kernel
theorem dX8_perhaps_19 : decode cX8_perhaps 19 = .ok (.iconst 0, 1) := by decide +kernel
theorem dX8_perhaps_20 : decode cX8_perhaps 20 = .ok (.ireturn, 1) := by decide +kernel
theorem dX8_readsPlate_0 : decode cX8_readsPlate 0 = .ok (.aload_n 0, 1) := by decide +kernel
theorem dX8_readsPlate_1 : decode cX8_readsPlate 1 = .ok (.iconst 0, 1) := by decide +kernel
theorem dX8_readsPlate_2 : decode cX8_readsPlate 2 = .ok (.putfield 99, 3) := by decide +kernel
theorem dX8_readsPlate_5 : decode cX8_readsPlate 5 = .ok (.aload_n 0, 1) := by decide +kernel
theorem dX8_readsPlate_6 : decode cX8_readsPlate 6 = .ok (.bipush 119, 2) := by decide +kernel
theorem dX8_readsPlate_8 : decode cX8_readsPlate 8 = .ok (.iconst 1, 1) := by decide +kernel
theorem dX8_readsPlate_9 : decode cX8_readsPlate 9 = .ok (.sipush 999, 3) := by decide +kernel
theorem dX8_readsPlate_12 : decode cX8_readsPlate 12 = .ok (.invokevirtual 117, 3) := by decide +kernel
theorem dX8_readsPlate_15 : decode cX8_readsPlate 15 = .ok (.istore_n 1, 1) := by decide +kernel
theorem dX8_readsPlate_16 : decode cX8_readsPlate 16 = .ok (.iload_n 1, 1) := by decide +kernel
theorem dX8_readsPlate_17 : decode cX8_readsPlate 17 = .ok (.ifCond .ge 5, 3) := by decide +kernel
theorem dX8_readsPlate_20 : decode cX8_readsPlate 20 = .ok (.iconst 0, 1) := by decide +kernel
theorem dX8_readsPlate_21 : decode cX8_readsPlate 21 = .ok (.ireturn, 1) := by decide +kernel
theorem dX8_readsPlate_22 : decode cX8_readsPlate 22 = .ok (.aload_n 0, 1) := by decide +kernel
theorem dX8_readsPlate_23 : decode cX8_readsPlate 23 = .ok (.bipush 100, 2) := by decide +kernel
theorem dX8_readsPlate_25 : decode cX8_readsPlate 25 = .ok (.iconst 1, 1) := by decide +kernel
theorem dX8_readsPlate_26 : decode cX8_readsPlate 26 = .ok (.bipush 99, 2) := by decide +kernel
theorem dX8_readsPlate_28 : decode cX8_readsPlate 28 = .ok (.invokevirtual 117, 3) := by decide +kernel
theorem dX8_readsPlate_31 : decode cX8_readsPlate 31 = .ok (.istore_n 2, 1) := by decide +kernel
theorem dX8_readsPlate_32 : decode cX8_readsPlate 32 = .ok (.iload_n 2, 1) := by decide +kernel
theorem dX8_readsPlate_33 : decode cX8_readsPlate 33 = .ok (.ifCond .ge 5, 3) := by decide +kernel
theorem dX8_readsPlate_36 : decode cX8_readsPlate 36 = .ok (.iconst 0, 1) := by decide +kernel
theorem dX8_readsPlate_37 : decode cX8_readsPlate 37 = .ok (.ireturn, 1) := by decide +kernel
theorem dX8_readsPlate_38 : decode cX8_readsPlate 38 = .ok (.aload_n 0, 1) := by decide +kernel
theorem dX8_readsPlate_39 : decode cX8_readsPlate 39 = .ok (.bipush 101, 2) := by decide +kernel
theorem dX8_readsPlate_41 : decode cX8_readsPlate 41 = .ok (.invokevirtual 120, 3) := by decide +kernel
theorem dX8_readsPlate_44 : decode cX8_readsPlate 44 = .ok (.istore_n 3, 1) := by decide +kernel
theorem dX8_readsPlate_45 : decode cX8_readsPlate 45 = .ok (.iload_n 3, 1) := by decide +kernel
theorem dX8_readsPlate_46 : decode cX8_readsPlate 46 = .ok (.ifCond .ge 5, 3) := by decide +kernel
theorem dX8_readsPlate_49 : decode cX8_readsPlate 49 = .ok (.iconst 0, 1) := by decide +kernel
theorem dX8_readsPlate_50 : decode cX8_readsPlate 50 = .ok (.ireturn, 1) := by decide +kernel
theorem dX8_readsPlate_51 : decode cX8_readsPlate 51 = .ok (.aload_n 0, 1) := by decide +kernel
theorem dX8_readsPlate_52 : decode cX8_readsPlate 52 = .ok (.bipush 104, 2) := by decide +kernel
theorem dX8_readsPlate_54 : decode cX8_readsPlate 54 = .ok (.invokevirtual 120, 3) := by decide +kernel
theorem dX8_readsPlate_57 : decode cX8_readsPlate 57 = .ok (.istore 4, 2) := by decide +kernel
theorem dX8_readsPlate_59 : decode cX8_readsPlate 59 = .ok (.iload 4, 2) := by decide +kernel
theorem dX8_readsPlate_61 : decode cX8_readsPlate 61 = .ok (.ifCond .ge 5, 3) := by decide +kernel
theorem dX8_readsPlate_64 : decode cX8_readsPlate 64 = .ok (.iconst 0, 1) := by decide +kernel
theorem dX8_readsPlate_65 : decode cX8_readsPlate 65 = .ok (.ireturn, 1) := by decide +kernel
theorem dX8_readsPlate_66 : decode cX8_readsPlate 66 = .ok (.aload_n 0, 1) := by decide +kernel
theorem dX8_readsPlate_67 : decode cX8_readsPlate 67 = .ok (.bipush 98, 2) := by decide +kernel
theorem dX8_readsPlate_69 : decode cX8_readsPlate 69 = .ok (.invokevirtual 120, 3) := by decide +kernel
theorem dX8_readsPlate_72 : decode cX8_readsPlate 72 = .ok (.istore 5, 2) := by decide +kernel
theorem dX8_readsPlate_74 : decode cX8_readsPlate 74 = .ok (.iload 5, 2) := by decide +kernel
theorem dX8_readsPlate_76 : decode cX8_readsPlate 76 = .ok (.ifCond .lt 14, 3) := by decide +kernel
theorem dX8_readsPlate_79 : decode cX8_readsPlate 79 = .ok (.aload_n 0, 1) := by decide +kernel
theorem dX8_readsPlate_80 : decode cX8_readsPlate 80 = .ok (.getfield 99, 3) := by decide +kernel
theorem dX8_readsPlate_83 : decode cX8_readsPlate 83 = .ok (.aload_n 0, 1) := by decide +kernel
theorem dX8_readsPlate_84 : decode cX8_readsPlate 84 = .ok (.getfield 90, 3) := by decide +kernel
theorem dX8_readsPlate_87 : decode cX8_readsPlate 87 = .ok (.if_icmp .ge 5, 3) := by decide +kernel
theorem dX8_readsPlate_90 : decode cX8_readsPlate 90 = .ok (.iconst 0, 1) := by decide +kernel
theorem dX8_readsPlate_91 : decode cX8_readsPlate 91 = .ok (.ireturn, 1) := by decide +kernel
theorem dX8_readsPlate_92 : decode cX8_readsPlate 92 = .ok (.aload_n 0, 1) := by decide +kernel
theorem dX8_readsPlate_93 : decode cX8_readsPlate 93 = .ok (.getfield 16, 3) := by decide +kernel
theorem dX8_readsPlate_96 : decode cX8_readsPlate 96 = .ok (.aload_n 0, 1) := by decide +kernel
theorem dX8_readsPlate_97 : decode cX8_readsPlate 97 = .ok (.getfield 123, 3) := by decide +kernel
theorem dX8_readsPlate_100 : decode cX8_readsPlate 100 = .ok (.iload_n 1, 1) := by decide +kernel
theorem dX8_readsPlate_101 : decode cX8_readsPlate 101 = .ok (.iastore, 1) := by decide +kernel
theorem dX8_readsPlate_102 : decode cX8_readsPlate 102 = .ok (.aload_n 0, 1) := by decide +kernel
theorem dX8_readsPlate_103 : decode cX8_readsPlate 103 = .ok (.getfield 19, 3) := by decide +kernel
theorem dX8_readsPlate_106 : decode cX8_readsPlate 106 = .ok (.aload_n 0, 1) := by decide +kernel
theorem dX8_readsPlate_107 : decode cX8_readsPlate 107 = .ok (.getfield 123, 3) := by decide +kernel
theorem dX8_readsPlate_110 : decode cX8_readsPlate 110 = .ok (.iload_n 2, 1) := by decide +kernel
theorem dX8_readsPlate_111 : decode cX8_readsPlate 111 = .ok (.iastore, 1) := by decide +kernel
theorem dX8_readsPlate_112 : decode cX8_readsPlate 112 = .ok (.aload_n 0, 1) := by decide +kernel
theorem dX8_readsPlate_113 : decode cX8_readsPlate 113 = .ok (.getfield 22, 3) := by decide +kernel
theorem dX8_readsPlate_116 : decode cX8_readsPlate 116 = .ok (.aload_n 0, 1) := by decide +kernel
theorem dX8_readsPlate_117 : decode cX8_readsPlate 117 = .ok (.getfield 123, 3) := by decide +kernel
theorem dX8_readsPlate_120 : decode cX8_readsPlate 120 = .ok (.iload_n 3, 1) := by decide +kernel
theorem dX8_readsPlate_121 : decode cX8_readsPlate 121 = .ok (.iastore, 1) := by decide +kernel
theorem dX8_readsPlate_122 : decode cX8_readsPlate 122 = .ok (.aload_n 0, 1) := by decide +kernel
theorem dX8_readsPlate_123 : decode cX8_readsPlate 123 = .ok (.getfield 25, 3) := by decide +kernel
theorem dX8_readsPlate_126 : decode cX8_readsPlate 126 = .ok (.aload_n 0, 1) := by decide +kernel
theorem dX8_readsPlate_127 : decode cX8_readsPlate 127 = .ok (.getfield 123, 3) := by decide +kernel
theorem dX8_readsPlate_130 : decode cX8_readsPlate 130 = .ok (.iload 4, 2) := by decide +kernel
theorem dX8_readsPlate_132 : decode cX8_readsPlate 132 = .ok (.iastore, 1) := by decide +kernel
theorem dX8_readsPlate_133 : decode cX8_readsPlate 133 = .ok (.aload_n 0, 1) := by decide +kernel
theorem dX8_readsPlate_134 : decode cX8_readsPlate 134 = .ok (.getfield 28, 3) := by decide +kernel
theorem dX8_readsPlate_137 : decode cX8_readsPlate 137 = .ok (.aload_n 0, 1) := by decide +kernel
theorem dX8_readsPlate_138 : decode cX8_readsPlate 138 = .ok (.getfield 123, 3) := by decide +kernel
theorem dX8_readsPlate_141 : decode cX8_readsPlate 141 = .ok (.iload 5, 2) := by decide +kernel
theorem dX8_readsPlate_143 : decode cX8_readsPlate 143 = .ok (.iastore, 1) := by decide +kernel
theorem dX8_readsPlate_144 : decode cX8_readsPlate 144 = .ok (.iconst 1, 1) := by decide +kernel
theorem dX8_readsPlate_145 : decode cX8_readsPlate 145 = .ok (.ireturn, 1) := by decide +kernel
theorem dX8_plate_0 : decode cX8_plate 0 = .ok (.aload_n 0, 1) := by decide +kernel
theorem dX8_plate_1 : decode cX8_plate 1 = .ok (.getfield 123, 3) := by decide +kernel
theorem dX8_plate_4 : decode cX8_plate 4 = .ok (.bipush 6, 2) := by decide +kernel
theorem dX8_plate_6 : decode cX8_plate 6 = .ok (.if_icmp .ne 10, 3) := by decide +kernel
theorem dX8_plate_9 : decode cX8_plate 9 = .ok (.aload_n 0, 1) := by decide +kernel
theorem dX8_plate_10 : decode cX8_plate 10 = .ok (.bipush (-6), 2) := by decide +kernel
theorem dX8_plate_12 : decode cX8_plate 12 = .ok (.invokevirtual 93, 3) := by decide +kernel
theorem dX8_plate_15 : decode cX8_plate 15 = .ok (.ireturn, 1) := by decide +kernel
theorem dX8_plate_16 : decode cX8_plate 16 = .ok (.aload_n 0, 1) := by decide +kernel
theorem dX8_plate_17 : decode cX8_plate 17 = .ok (.invokevirtual 126, 3) := by decide +kernel
theorem dX8_plate_20 : decode cX8_plate 20 = .ok (.istore_n 1, 1) := by decide +kernel
theorem dX8_plate_21 : decode cX8_plate 21 = .ok (.aload_n 0, 1) := by decide +kernel
theorem dX8_plate_22 : decode cX8_plate 22 = .ok (.iconst 0, 1) := by decide +kernel
theorem dX8_plate_23 : decode cX8_plate 23 = .ok (.putfield 90, 3) := by decide +kernel
theorem dX8_plate_26 : decode cX8_plate 26 = .ok (.iload_n 1, 1) := by decide +kernel
theorem dX8_plate_27 : decode cX8_plate 27 = .ok (.ifCond .ne 11, 3) := by decide +kernel
theorem dX8_plate_30 : decode cX8_plate 30 = .ok (.bipush (-20), 2) := by decide +kernel
theorem dX8_plate_32 : decode cX8_plate 32 = .ok (.aload_n 0, 1) := by decide +kernel
theorem dX8_plate_33 : decode cX8_plate 33 = .ok (.getfield 99, 3) := by decide +kernel
theorem dX8_plate_36 : decode cX8_plate 36 = .ok (.isub, 1) := by decide +kernel
theorem dX8_plate_37 : decode cX8_plate 37 = .ok (.ireturn, 1) := by decide +kernel
theorem dX8_plate_38 : decode cX8_plate 38 = .ok (.aload_n 0, 1) := by decide +kernel
theorem dX8_plate_39 : decode cX8_plate 39 = .ok (.dup, 1) := by decide +kernel
theorem dX8_plate_40 : decode cX8_plate 40 = .ok (.getfield 123, 3) := by decide +kernel
theorem dX8_plate_43 : decode cX8_plate 43 = .ok (.iconst 1, 1) := by decide +kernel
theorem dX8_plate_44 : decode cX8_plate 44 = .ok (.iadd, 1) := by decide +kernel
theorem dX8_plate_45 : decode cX8_plate 45 = .ok (.putfield 123, 3) := by decide +kernel
theorem dX8_plate_48 : decode cX8_plate 48 = .ok (.aload_n 0, 1) := by decide +kernel
theorem dX8_plate_49 : decode cX8_plate 49 = .ok (.getfield 123, 3) := by decide +kernel
theorem dX8_plate_52 : decode cX8_plate 52 = .ok (.iconst 1, 1) := by decide +kernel
theorem dX8_plate_53 : decode cX8_plate 53 = .ok (.isub, 1) := by decide +kernel
theorem dX8_plate_54 : decode cX8_plate 54 = .ok (.ireturn, 1) := by decide +kernel
theorem dX8_isPlate_0 : decode cX8_isPlate 0 = .ok (.iload_n 1, 1) := by decide +kernel
theorem dX8_isPlate_1 : decode cX8_isPlate 1 = .ok (.ifCond .lt 15, 3) := by decide +kernel
theorem dX8_isPlate_4 : decode cX8_isPlate 4 = .ok (.iload_n 1, 1) := by decide +kernel
theorem dX8_isPlate_5 : decode cX8_isPlate 5 = .ok (.aload_n 0, 1) := by decide +kernel
theorem dX8_isPlate_6 : decode cX8_isPlate 6 = .ok (.getfield 123, 3) := by decide +kernel
theorem dX8_isPlate_9 : decode cX8_isPlate 9 = .ok (.if_icmp .ge 7, 3) := by decide +kernel
theorem dX8_isPlate_12 : decode cX8_isPlate 12 = .ok (.iconst 1, 1) := by decide +kernel
theorem dX8_isPlate_13 : decode cX8_isPlate 13 = .ok (.goto 4, 3) := by decide +kernel
theorem dX8_isPlate_16 : decode cX8_isPlate 16 = .ok (.iconst 0, 1) := by decide +kernel
theorem dX8_isPlate_17 : decode cX8_isPlate 17 = .ok (.ireturn, 1) := by decide +kernel
theorem dX8_isFloor_0 : decode cX8_isFloor 0 = .ok (.iload_n 0, 1) := by decide +kernel
theorem dX8_isFloor_1 : decode cX8_isFloor 1 = .ok (.ifCond .lt 12, 3) := by decide +kernel
theorem dX8_isFloor_4 : decode cX8_isFloor 4 = .ok (.iload_n 0, 1) := by decide +kernel
theorem dX8_isFloor_5 : decode cX8_isFloor 5 = .ok (.iconst 4, 1) := by decide +kernel
theorem dX8_isFloor_6 : decode cX8_isFloor 6 = .ok (.if_icmp .ge 7, 3) := by decide +kernel
theorem dX8_isFloor_9 : decode cX8_isFloor 9 = .ok (.iconst 1, 1) := by decide +kernel
theorem dX8_isFloor_10 : decode cX8_isFloor 10 = .ok (.goto 4, 3) := by decide +kernel
theorem dX8_isFloor_13 : decode cX8_isFloor 13 = .ok (.iconst 0, 1) := by decide +kernel
theorem dX8_isFloor_14 : decode cX8_isFloor 14 = .ok (.ireturn, 1) := by decide +kernel
theorem dX8_plateOf_0 : decode cX8_plateOf 0 = .ok (.aload_n 0, 1) := by decide +kernel
theorem dX8_plateOf_1 : decode cX8_plateOf 1 = .ok (.iload_n 1, 1) := by decide +kernel
theorem dX8_plateOf_2 : decode cX8_plateOf 2 = .ok (.invokevirtual 129, 3) := by decide +kernel
theorem dX8_plateOf_5 : decode cX8_plateOf 5 = .ok (.ifCond .ne 9, 3) := by decide +kernel
theorem dX8_plateOf_8 : decode cX8_plateOf 8 = .ok (.aload_n 0, 1) := by decide +kernel
theorem dX8_plateOf_9 : decode cX8_plateOf 9 = .ok (.iconst (-1), 1) := by decide +kernel
theorem dX8_plateOf_10 : decode cX8_plateOf 10 = .ok (.invokevirtual 93, 3) := by decide +kernel
theorem dX8_plateOf_13 : decode cX8_plateOf 13 = .ok (.ireturn, 1) := by decide +kernel
theorem dX8_plateOf_14 : decode cX8_plateOf 14 = .ok (.iload_n 2, 1) := by decide +kernel
theorem dX8_plateOf_15 : decode cX8_plateOf 15 = .ok (.tableswitch 68 0 4 #[33, 40, 47, 54, 61], 33) := by decide +kernel
theorem dX8_plateOf_48 : decode cX8_plateOf 48 = .ok (.aload_n 0, 1) := by decide +kernel
theorem dX8_plateOf_49 : decode cX8_plateOf 49 = .ok (.getfield 16, 3) := by decide +kernel
theorem dX8_plateOf_52 : decode cX8_plateOf 52 = .ok (.iload_n 1, 1) := by decide +kernel
theorem dX8_plateOf_53 : decode cX8_plateOf 53 = .ok (.iaload, 1) := by decide +kernel
theorem dX8_plateOf_54 : decode cX8_plateOf 54 = .ok (.ireturn, 1) := by decide +kernel
theorem dX8_plateOf_55 : decode cX8_plateOf 55 = .ok (.aload_n 0, 1) := by decide +kernel
theorem dX8_plateOf_56 : decode cX8_plateOf 56 = .ok (.getfield 19, 3) := by decide +kernel
theorem dX8_plateOf_59 : decode cX8_plateOf 59 = .ok (.iload_n 1, 1) := by decide +kernel
theorem dX8_plateOf_60 : decode cX8_plateOf 60 = .ok (.iaload, 1) := by decide +kernel
theorem dX8_plateOf_61 : decode cX8_plateOf 61 = .ok (.ireturn, 1) := by decide +kernel
theorem dX8_plateOf_62 : decode cX8_plateOf 62 = .ok (.aload_n 0, 1) := by decide +kernel
theorem dX8_plateOf_63 : decode cX8_plateOf 63 = .ok (.getfield 22, 3) := by decide +kernel
theorem dX8_plateOf_66 : decode cX8_plateOf 66 = .ok (.iload_n 1, 1) := by decide +kernel
theorem dX8_plateOf_67 : decode cX8_plateOf 67 = .ok (.iaload, 1) := by decide +kernel
theorem dX8_plateOf_68 : decode cX8_plateOf 68 = .ok (.ireturn, 1) := by decide +kernel
theorem dX8_plateOf_69 : decode cX8_plateOf 69 = .ok (.aload_n 0, 1) := by decide +kernel
theorem dX8_plateOf_70 : decode cX8_plateOf 70 = .ok (.getfield 25, 3) := by decide +kernel
theorem dX8_plateOf_73 : decode cX8_plateOf 73 = .ok (.iload_n 1, 1) := by decide +kernel
theorem dX8_plateOf_74 : decode cX8_plateOf 74 = .ok (.iaload, 1) := by decide +kernel
theorem dX8_plateOf_75 : decode cX8_plateOf 75 = .ok (.ireturn, 1) := by decide +kernel
theorem dX8_plateOf_76 : decode cX8_plateOf 76 = .ok (.aload_n 0, 1) := by decide +kernel
theorem dX8_plateOf_77 : decode cX8_plateOf 77 = .ok (.getfield 28, 3) := by decide +kernel
theorem dX8_plateOf_80 : decode cX8_plateOf 80 = .ok (.iload_n 1, 1) := by decide +kernel
theorem dX8_plateOf_81 : decode cX8_plateOf 81 = .ok (.iaload, 1) := by decide +kernel
theorem dX8_plateOf_82 : decode cX8_plateOf 82 = .ok (.ireturn, 1) := by decide +kernel
theorem dX8_plateOf_83 : decode cX8_plateOf 83 = .ok (.aload_n 0, 1) := by decide +kernel
theorem dX8_plateOf_84 : decode cX8_plateOf 84 = .ok (.bipush (-2), 2) := by decide +kernel
theorem dX8_plateOf_86 : decode cX8_plateOf 86 = .ok (.invokevirtual 93, 3) := by decide +kernel
theorem dX8_plateOf_89 : decode cX8_plateOf 89 = .ok (.ireturn, 1) := by decide +kernel
theorem dX8_emits_0 : decode cX8_emits 0 = .ok (.aload_n 0, 1) := by decide +kernel
theorem dX8_emits_1 : decode cX8_emits 1 = .ok (.getfield 53, 3) := by decide +kernel
theorem dX8_emits_4 : decode cX8_emits 4 = .ok (.aload_n 0, 1) := by decide +kernel
theorem dX8_emits_5 : decode cX8_emits 5 = .ok (.getfield 133, 3) := by decide +kernel
theorem dX8_emits_8 : decode cX8_emits 8 = .ok (.iload_n 1, 1) := by decide +kernel
theorem dX8_emits_9 : decode cX8_emits 9 = .ok (.iastore, 1) := by decide +kernel
theorem dX8_emits_10 : decode cX8_emits 10 = .ok (.aload_n 0, 1) := by decide +kernel
theorem dX8_emits_11 : decode cX8_emits 11 = .ok (.dup, 1) := by decide +kernel
theorem dX8_emits_12 : decode cX8_emits 12 = .ok (.getfield 133, 3) := by decide +kernel
theorem dX8_emits_15 : decode cX8_emits 15 = .ok (.iconst 1, 1) := by decide +kernel
theorem dX8_emits_16 : decode cX8_emits 16 = .ok (.iadd, 1) := by decide +kernel
theorem dX8_emits_17 : decode cX8_emits 17 = .ok (.putfield 133, 3) := by decide +kernel
theorem dX8_emits_20 : decode cX8_emits 20 = .ok (.return_, 1) := by decide +kernel
theorem dX8_strength_0 : decode cX8_strength 0 = .ok (.iload_n 0, 1) := by decide +kernel
theorem dX8_strength_1 : decode cX8_strength 1 = .ok (.bipush 43, 2) := by decide +kernel
theorem dX8_strength_3 : decode cX8_strength 3 = .ok (.if_icmp .eq 9, 3) := by decide +kernel
theorem dX8_strength_6 : decode cX8_strength 6 = .ok (.iload_n 0, 1) := by decide +kernel
theorem dX8_strength_7 : decode cX8_strength 7 = .ok (.bipush 45, 2) := by decide +kernel
theorem dX8_strength_9 : decode cX8_strength 9 = .ok (.if_icmp .ne 7, 3) := by decide +kernel
theorem dX8_strength_12 : decode cX8_strength 12 = .ok (.iconst 1, 1) := by decide +kernel
theorem dX8_strength_13 : decode cX8_strength 13 = .ok (.goto 20, 3) := by decide +kernel
theorem dX8_strength_16 : decode cX8_strength 16 = .ok (.iload_n 0, 1) := by decide +kernel
theorem dX8_strength_17 : decode cX8_strength 17 = .ok (.bipush 42, 2) := by decide +kernel
theorem dX8_strength_19 : decode cX8_strength 19 = .ok (.if_icmp .eq 9, 3) := by decide +kernel
theorem dX8_strength_22 : decode cX8_strength 22 = .ok (.iload_n 0, 1) := by decide +kernel
theorem dX8_strength_23 : decode cX8_strength 23 = .ok (.bipush 47, 2) := by decide +kernel
theorem dX8_strength_25 : decode cX8_strength 25 = .ok (.if_icmp .ne 7, 3) := by decide +kernel
theorem dX8_strength_28 : decode cX8_strength 28 = .ok (.iconst 2, 1) := by decide +kernel
theorem dX8_strength_29 : decode cX8_strength 29 = .ok (.goto 4, 3) := by decide +kernel
theorem dX8_strength_32 : decode cX8_strength 32 = .ok (.iconst 0, 1) := by decide +kernel
theorem dX8_strength_33 : decode cX8_strength 33 = .ok (.ireturn, 1) := by decide +kernel
theorem dX8_settles_0 : decode cX8_settles 0 = .ok (.aload_n 0, 1) := by decide +kernel
theorem dX8_settles_1 : decode cX8_settles 1 = .ok (.getfield 136, 3) := by decide +kernel
theorem dX8_settles_4 : decode cX8_settles 4 = .ok (.ifCond .le 63, 3) := by decide +kernel
theorem dX8_settles_7 : decode cX8_settles 7 = .ok (.aload_n 0, 1) := by decide +kernel
theorem dX8_settles_8 : decode cX8_settles 8 = .ok (.getfield 59, 3) := by decide +kernel
theorem dX8_settles_11 : decode cX8_settles 11 = .ok (.aload_n 0, 1) := by decide +kernel
theorem dX8_settles_12 : decode cX8_settles 12 = .ok (.getfield 136, 3) := by decide +kernel
theorem dX8_settles_15 : decode cX8_settles 15 = .ok (.iconst 1, 1) := by decide +kernel
theorem dX8_settles_16 : decode cX8_settles 16 = .ok (.isub, 1) := by decide +kernel
theorem dX8_settles_17 : decode cX8_settles 17 = .ok (.iaload, 1) := by decide +kernel
theorem dX8_settles_18 : decode cX8_settles 18 = .ok (.bipush 40, 2) := by decide +kernel
theorem dX8_settles_20 : decode cX8_settles 20 = .ok (.if_icmp .eq 47, 3) := by decide +kernel
theorem dX8_settles_23 : decode cX8_settles 23 = .ok (.aload_n 0, 1) := by decide +kernel
theorem dX8_settles_24 : decode cX8_settles 24 = .ok (.getfield 59, 3) := by decide +kernel
theorem dX8_settles_27 : decode cX8_settles 27 = .ok (.aload_n 0, 1) := by decide +kernel
theorem dX8_settles_28 : decode cX8_settles 28 = .ok (.getfield 136, 3) := by decide +kernel
theorem dX8_settles_31 : decode cX8_settles 31 = .ok (.iconst 1, 1) := by decide +kernel
theorem dX8_settles_32 : decode cX8_settles 32 = .ok (.isub, 1) := by decide +kernel
theorem dX8_settles_33 : decode cX8_settles 33 = .ok (.iaload, 1) := by decide +kernel
theorem dX8_settles_34 : decode cX8_settles 34 = .ok (.invokestatic 139, 3) := by decide +kernel
theorem dX8_settles_37 : decode cX8_settles 37 = .ok (.iload_n 1, 1) := by decide +kernel
theorem dX8_settles_38 : decode cX8_settles 38 = .ok (.if_icmp .lt 29, 3) := by decide +kernel
theorem dX8_settles_41 : decode cX8_settles 41 = .ok (.aload_n 0, 1) := by decide +kernel
theorem dX8_settles_42 : decode cX8_settles 42 = .ok (.dup, 1) := by decide +kernel
theorem dX8_settles_43 : decode cX8_settles 43 = .ok (.getfield 136, 3) := by decide +kernel
theorem dX8_settles_46 : decode cX8_settles 46 = .ok (.iconst 1, 1) := by decide +kernel
theorem dX8_settles_47 : decode cX8_settles 47 = .ok (.isub, 1) := by decide +kernel
theorem dX8_settles_48 : decode cX8_settles 48 = .ok (.putfield 136, 3) := by decide +kernel
theorem dX8_settles_51 : decode cX8_settles 51 = .ok (.aload_n 0, 1) := by decide +kernel
theorem dX8_settles_52 : decode cX8_settles 52 = .ok (.aload_n 0, 1) := by decide +kernel
theorem dX8_settles_53 : decode cX8_settles 53 = .ok (.getfield 59, 3) := by decide +kernel
theorem dX8_settles_56 : decode cX8_settles 56 = .ok (.aload_n 0, 1) := by decide +kernel
theorem dX8_settles_57 : decode cX8_settles 57 = .ok (.getfield 136, 3) := by decide +kernel
theorem dX8_settles_60 : decode cX8_settles 60 = .ok (.iaload, 1) := by decide +kernel
theorem dX8_settles_61 : decode cX8_settles 61 = .ok (.invokevirtual 142, 3) := by decide +kernel
theorem dX8_settles_64 : decode cX8_settles 64 = .ok (.goto (-64), 3) := by decide +kernel
theorem dX8_settles_67 : decode cX8_settles 67 = .ok (.return_, 1) := by decide +kernel
theorem dX8_isField_0 : decode cX8_isField 0 = .ok (.iload_n 0, 1) := by decide +kernel
theorem dX8_isField_1 : decode cX8_isField 1 = .ok (.bipush 108, 2) := by decide +kernel
theorem dX8_isField_3 : decode cX8_isField 3 = .ok (.if_icmp .eq 45, 3) := by decide +kernel
theorem dX8_isField_6 : decode cX8_isField 6 = .ok (.iload_n 0, 1) := by decide +kernel
theorem dX8_isField_7 : decode cX8_isField 7 = .ok (.bipush 116, 2) := by decide +kernel
theorem dX8_isField_9 : decode cX8_isField 9 = .ok (.if_icmp .eq 39, 3) := by decide +kernel
theorem dX8_isField_12 : decode cX8_isField 12 = .ok (.iload_n 0, 1) := by decide +kernel
theorem dX8_isField_13 : decode cX8_isField 13 = .ok (.bipush 119, 2) := by decide +kernel
theorem dX8_isField_15 : decode cX8_isField 15 = .ok (.if_icmp .eq 33, 3) := by decide +kernel
theorem dX8_isField_18 : decode cX8_isField 18 = .ok (.iload_n 0, 1) := by decide +kernel
theorem dX8_isField_19 : decode cX8_isField 19 = .ok (.bipush 100, 2) := by decide +kernel
theorem dX8_isField_21 : decode cX8_isField 21 = .ok (.if_icmp .eq 27, 3) := by decide +kernel
theorem dX8_isField_24 : decode cX8_isField 24 = .ok (.iload_n 0, 1) := by decide +kernel
theorem dX8_isField_25 : decode cX8_isField 25 = .ok (.bipush 101, 2) := by decide +kernel
theorem dX8_isField_27 : decode cX8_isField 27 = .ok (.if_icmp .eq 21, 3) := by decide +kernel
theorem dX8_isField_30 : decode cX8_isField 30 = .ok (.iload_n 0, 1) := by decide +kernel
theorem dX8_isField_31 : decode cX8_isField 31 = .ok (.bipush 98, 2) := by decide +kernel
theorem dX8_isField_33 : decode cX8_isField 33 = .ok (.if_icmp .eq 15, 3) := by decide +kernel
theorem dX8_isField_36 : decode cX8_isField 36 = .ok (.iload_n 0, 1) := by decide +kernel
theorem dX8_isField_37 : decode cX8_isField 37 = .ok (.bipush 102, 2) := by decide +kernel
theorem dX8_isField_39 : decode cX8_isField 39 = .ok (.if_icmp .eq 9, 3) := by decide +kernel
theorem dX8_isField_42 : decode cX8_isField 42 = .ok (.iload_n 0, 1) := by decide +kernel
theorem dX8_isField_43 : decode cX8_isField 43 = .ok (.bipush 107, 2) := by decide +kernel
theorem dX8_isField_45 : decode cX8_isField 45 = .ok (.if_icmp .ne 7, 3) := by decide +kernel
theorem dX8_isField_48 : decode cX8_isField 48 = .ok (.iconst 1, 1) := by decide +kernel
theorem dX8_isField_49 : decode cX8_isField 49 = .ok (.goto 4, 3) := by decide +kernel
theorem dX8_isField_52 : decode cX8_isField 52 = .ok (.iconst 0, 1) := by decide +kernel
theorem dX8_isField_53 : decode cX8_isField 53 = .ok (.ireturn, 1) := by decide +kernel
theorem dX8_wanted_0 : decode cX8_wanted 0 = .ok (.aload_n 0, 1) := by decide +kernel
theorem dX8_wanted_1 : decode cX8_wanted 1 = .ok (.invokevirtual 102, 3) := by decide +kernel
theorem dX8_wanted_4 : decode cX8_wanted 4 = .ok (.istore_n 1, 1) := by decide +kernel
theorem dX8_wanted_5 : decode cX8_wanted 5 = .ok (.aload_n 0, 1) := by decide +kernel
theorem dX8_wanted_6 : decode cX8_wanted 6 = .ok (.invokevirtual 110, 3) := by decide +kernel
theorem dX8_wanted_9 : decode cX8_wanted 9 = .ok (.ifCond .eq 17, 3) := by decide +kernel
theorem dX8_wanted_12 : decode cX8_wanted 12 = .ok (.aload_n 0, 1) := by decide +kernel
theorem dX8_wanted_13 : decode cX8_wanted 13 = .ok (.sipush 1000, 3) := by decide +kernel
theorem dX8_wanted_16 : decode cX8_wanted 16 = .ok (.aload_n 0, 1) := by decide +kernel
theorem dX8_wanted_17 : decode cX8_wanted 17 = .ok (.invokevirtual 114, 3) := by decide +kernel
theorem dX8_wanted_20 : decode cX8_wanted 20 = .ok (.iadd, 1) := by decide +kernel
theorem dX8_wanted_21 : decode cX8_wanted 21 = .ok (.invokevirtual 142, 3) := by decide +kernel
theorem dX8_wanted_24 : decode cX8_wanted 24 = .ok (.iconst 1, 1) := by decide +kernel
theorem dX8_wanted_25 : decode cX8_wanted 25 = .ok (.ireturn, 1) := by decide +kernel
theorem dX8_wanted_26 : decode cX8_wanted 26 = .ok (.iload_n 1, 1) := by decide +kernel
theorem dX8_wanted_27 : decode cX8_wanted 27 = .ok (.invokestatic 146, 3) := by decide +kernel
theorem dX8_wanted_30 : decode cX8_wanted 30 = .ok (.ifCond .eq 20, 3) := by decide +kernel
theorem dX8_wanted_33 : decode cX8_wanted 33 = .ok (.aload_n 0, 1) := by decide +kernel
theorem dX8_wanted_34 : decode cX8_wanted 34 = .ok (.iload_n 1, 1) := by decide +kernel
theorem dX8_wanted_35 : decode cX8_wanted 35 = .ok (.invokevirtual 142, 3) := by decide +kernel
theorem dX8_wanted_38 : decode cX8_wanted 38 = .ok (.aload_n 0, 1) := by decide +kernel
theorem dX8_wanted_39 : decode cX8_wanted 39 = .ok (.dup, 1) := by decide +kernel
theorem dX8_wanted_40 : decode cX8_wanted 40 = .ok (.getfield 99, 3) := by decide +kernel
theorem dX8_wanted_43 : decode cX8_wanted 43 = .ok (.iconst 1, 1) := by decide +kernel
theorem dX8_wanted_44 : decode cX8_wanted 44 = .ok (.iadd, 1) := by decide +kernel
theorem dX8_wanted_45 : decode cX8_wanted 45 = .ok (.putfield 99, 3) := by decide +kernel
theorem dX8_wanted_48 : decode cX8_wanted 48 = .ok (.iconst 1, 1) := by decide +kernel
theorem dX8_wanted_49 : decode cX8_wanted 49 = .ok (.ireturn, 1) := by decide +kernel
theorem dX8_wanted_50 : decode cX8_wanted 50 = .ok (.iload_n 1, 1) := by decide +kernel
theorem dX8_wanted_51 : decode cX8_wanted 51 = .ok (.bipush 40, 2) := by decide +kernel
theorem dX8_wanted_53 : decode cX8_wanted 53 = .ok (.if_icmp .ne 11, 3) := by decide +kernel
theorem dX8_wanted_56 : decode cX8_wanted 56 = .ok (.aload_n 0, 1) := by decide +kernel
theorem dX8_wanted_57 : decode cX8_wanted 57 = .ok (.getfield 149, 3) := by decide +kernel
theorem dX8_wanted_60 : decode cX8_wanted 60 = .ok (.iconst 4, 1) := by decide +kernel
theorem dX8_wanted_61 : decode cX8_wanted 61 = .ok (.if_icmp .ne 5, 3) := by decide +kernel
theorem dX8_wanted_64 : decode cX8_wanted 64 = .ok (.iconst (-1), 1) := by decide +kernel
theorem dX8_wanted_65 : decode cX8_wanted 65 = .ok (.ireturn, 1) := by decide +kernel
theorem dX8_wanted_66 : decode cX8_wanted 66 = .ok (.aload_n 0, 1) := by decide +kernel
theorem dX8_wanted_67 : decode cX8_wanted 67 = .ok (.getfield 59, 3) := by decide +kernel
theorem dX8_wanted_70 : decode cX8_wanted 70 = .ok (.aload_n 0, 1) := by decide +kernel
theorem dX8_wanted_71 : decode cX8_wanted 71 = .ok (.getfield 136, 3) := by decide +kernel
theorem dX8_wanted_74 : decode cX8_wanted 74 = .ok (.iload_n 1, 1) := by decide +kernel
theorem dX8_wanted_75 : decode cX8_wanted 75 = .ok (.iastore, 1) := by decide +kernel
theorem dX8_wanted_76 : decode cX8_wanted 76 = .ok (.aload_n 0, 1) := by decide +kernel
theorem dX8_wanted_77 : decode cX8_wanted 77 = .ok (.dup, 1) := by decide +kernel
theorem dX8_wanted_78 : decode cX8_wanted 78 = .ok (.getfield 136, 3) := by decide +kernel
theorem dX8_wanted_81 : decode cX8_wanted 81 = .ok (.iconst 1, 1) := by decide +kernel
theorem dX8_wanted_82 : decode cX8_wanted 82 = .ok (.iadd, 1) := by decide +kernel
theorem dX8_wanted_83 : decode cX8_wanted 83 = .ok (.putfield 136, 3) := by decide +kernel
theorem dX8_wanted_86 : decode cX8_wanted 86 = .ok (.aload_n 0, 1) := by decide +kernel
theorem dX8_wanted_87 : decode cX8_wanted 87 = .ok (.dup, 1) := by decide +kernel
theorem dX8_wanted_88 : decode cX8_wanted 88 = .ok (.getfield 149, 3) := by decide +kernel
theorem dX8_wanted_91 : decode cX8_wanted 91 = .ok (.iconst 1, 1) := by decide +kernel
theorem dX8_wanted_92 : decode cX8_wanted 92 = .ok (.iadd, 1) := by decide +kernel
theorem dX8_wanted_93 : decode cX8_wanted 93 = .ok (.putfield 149, 3) := by decide +kernel
theorem dX8_wanted_96 : decode cX8_wanted 96 = .ok (.aload_n 0, 1) := by decide +kernel
theorem dX8_wanted_97 : decode cX8_wanted 97 = .ok (.dup, 1) := by decide +kernel
theorem dX8_wanted_98 : decode cX8_wanted 98 = .ok (.getfield 99, 3) := by decide +kernel
theorem dX8_wanted_101 : decode cX8_wanted 101 = .ok (.iconst 1, 1) := by decide +kernel
theorem dX8_wanted_102 : decode cX8_wanted 102 = .ok (.iadd, 1) := by decide +kernel
theorem dX8_wanted_103 : decode cX8_wanted 103 = .ok (.putfield 99, 3) := by decide +kernel
theorem dX8_wanted_106 : decode cX8_wanted 106 = .ok (.iconst 0, 1) := by decide +kernel
theorem dX8_wanted_107 : decode cX8_wanted 107 = .ok (.ireturn, 1) := by decide +kernel
theorem dX8_behind_0 : decode cX8_behind 0 = .ok (.aload_n 0, 1) := by decide +kernel
theorem dX8_behind_1 : decode cX8_behind 1 = .ok (.invokevirtual 102, 3) := by decide +kernel
theorem dX8_behind_4 : decode cX8_behind 4 = .ok (.istore_n 1, 1) := by decide +kernel
theorem dX8_behind_5 : decode cX8_behind 5 = .ok (.iload_n 1, 1) := by decide +kernel
theorem dX8_behind_6 : decode cX8_behind 6 = .ok (.bipush 41, 2) := by decide +kernel
theorem dX8_behind_8 : decode cX8_behind 8 = .ok (.if_icmp .ne 47, 3) := by decide +kernel
theorem dX8_behind_11 : decode cX8_behind 11 = .ok (.aload_n 0, 1) := by decide +kernel
theorem dX8_behind_12 : decode cX8_behind 12 = .ok (.getfield 149, 3) := by decide +kernel
theorem dX8_behind_15 : decode cX8_behind 15 = .ok (.ifCond .le 40, 3) := by decide +kernel
theorem dX8_behind_18 : decode cX8_behind 18 = .ok (.aload_n 0, 1) := by decide +kernel
theorem dX8_behind_19 : decode cX8_behind 19 = .ok (.iconst 0, 1) := by decide +kernel
theorem dX8_behind_20 : decode cX8_behind 20 = .ok (.invokevirtual 152, 3) := by decide +kernel
theorem dX8_behind_23 : decode cX8_behind 23 = .ok (.aload_n 0, 1) := by decide +kernel
theorem dX8_behind_24 : decode cX8_behind 24 = .ok (.dup, 1) := by decide +kernel
theorem dX8_behind_25 : decode cX8_behind 25 = .ok (.getfield 136, 3) := by decide +kernel
theorem dX8_behind_28 : decode cX8_behind 28 = .ok (.iconst 1, 1) := by decide +kernel
theorem dX8_behind_29 : decode cX8_behind 29 = .ok (.isub, 1) := by decide +kernel
theorem dX8_behind_30 : decode cX8_behind 30 = .ok (.putfield 136, 3) := by decide +kernel
theorem dX8_behind_33 : decode cX8_behind 33 = .ok (.aload_n 0, 1) := by decide +kernel
theorem dX8_behind_34 : decode cX8_behind 34 = .ok (.dup, 1) := by decide +kernel
theorem dX8_behind_35 : decode cX8_behind 35 = .ok (.getfield 149, 3) := by decide +kernel
theorem dX8_behind_38 : decode cX8_behind 38 = .ok (.iconst 1, 1) := by decide +kernel
theorem dX8_behind_39 : decode cX8_behind 39 = .ok (.isub, 1) := by decide +kernel
theorem dX8_behind_40 : decode cX8_behind 40 = .ok (.putfield 149, 3) := by decide +kernel
theorem dX8_behind_43 : decode cX8_behind 43 = .ok (.aload_n 0, 1) := by decide +kernel
theorem dX8_behind_44 : decode cX8_behind 44 = .ok (.dup, 1) := by decide +kernel
theorem dX8_behind_45 : decode cX8_behind 45 = .ok (.getfield 99, 3) := by decide +kernel
theorem dX8_behind_48 : decode cX8_behind 48 = .ok (.iconst 1, 1) := by decide +kernel
theorem dX8_behind_49 : decode cX8_behind 49 = .ok (.iadd, 1) := by decide +kernel
theorem dX8_behind_50 : decode cX8_behind 50 = .ok (.putfield 99, 3) := by decide +kernel
theorem dX8_behind_53 : decode cX8_behind 53 = .ok (.iconst 0, 1) := by decide +kernel
theorem dX8_behind_54 : decode cX8_behind 54 = .ok (.ireturn, 1) := by decide +kernel
theorem dX8_behind_55 : decode cX8_behind 55 = .ok (.iload_n 1, 1) := by decide +kernel
theorem dX8_behind_56 : decode cX8_behind 56 = .ok (.invokestatic 139, 3) := by decide +kernel
theorem dX8_behind_59 : decode cX8_behind 59 = .ok (.ifCond .ne 5, 3) := by decide +kernel
theorem dX8_behind_62 : decode cX8_behind 62 = .ok (.iconst (-1), 1) := by decide +kernel
theorem dX8_behind_63 : decode cX8_behind 63 = .ok (.ireturn, 1) := by decide +kernel
theorem dX8_behind_64 : decode cX8_behind 64 = .ok (.aload_n 0, 1) := by decide +kernel
theorem dX8_behind_65 : decode cX8_behind 65 = .ok (.iload_n 1, 1) := by decide +kernel
theorem dX8_behind_66 : decode cX8_behind 66 = .ok (.invokestatic 139, 3) := by decide +kernel
theorem dX8_behind_69 : decode cX8_behind 69 = .ok (.invokevirtual 152, 3) := by decide +kernel
theorem dX8_behind_72 : decode cX8_behind 72 = .ok (.aload_n 0, 1) := by decide +kernel
theorem dX8_behind_73 : decode cX8_behind 73 = .ok (.getfield 59, 3) := by decide +kernel
theorem dX8_behind_76 : decode cX8_behind 76 = .ok (.aload_n 0, 1) := by decide +kernel
theorem dX8_behind_77 : decode cX8_behind 77 = .ok (.getfield 136, 3) := by decide +kernel
theorem dX8_behind_80 : decode cX8_behind 80 = .ok (.iload_n 1, 1) := by decide +kernel
theorem dX8_behind_81 : decode cX8_behind 81 = .ok (.iastore, 1) := by decide +kernel
theorem dX8_behind_82 : decode cX8_behind 82 = .ok (.aload_n 0, 1) := by decide +kernel
theorem dX8_behind_83 : decode cX8_behind 83 = .ok (.dup, 1) := by decide +kernel
theorem dX8_behind_84 : decode cX8_behind 84 = .ok (.getfield 136, 3) := by decide +kernel
theorem dX8_behind_87 : decode cX8_behind 87 = .ok (.iconst 1, 1) := by decide +kernel
theorem dX8_behind_88 : decode cX8_behind 88 = .ok (.iadd, 1) := by decide +kernel
theorem dX8_behind_89 : decode cX8_behind 89 = .ok (.putfield 136, 3) := by decide +kernel
theorem dX8_behind_92 : decode cX8_behind 92 = .ok (.aload_n 0, 1) := by decide +kernel
theorem dX8_behind_93 : decode cX8_behind 93 = .ok (.dup, 1) := by decide +kernel
theorem dX8_behind_94 : decode cX8_behind 94 = .ok (.getfield 99, 3) := by decide +kernel
theorem dX8_behind_97 : decode cX8_behind 97 = .ok (.iconst 1, 1) := by decide +kernel
theorem dX8_behind_98 : decode cX8_behind 98 = .ok (.iadd, 1) := by decide +kernel
theorem dX8_behind_99 : decode cX8_behind 99 = .ok (.putfield 99, 3) := by decide +kernel
theorem dX8_behind_102 : decode cX8_behind 102 = .ok (.iconst 1, 1) := by decide +kernel
theorem dX8_behind_103 : decode cX8_behind 103 = .ok (.ireturn, 1) := by decide +kernel
theorem dX8_readsLaw_0 : decode cX8_readsLaw 0 = .ok (.aload_n 0, 1) := by decide +kernel
theorem dX8_readsLaw_1 : decode cX8_readsLaw 1 = .ok (.iconst 0, 1) := by decide +kernel
theorem dX8_readsLaw_2 : decode cX8_readsLaw 2 = .ok (.putfield 99, 3) := by decide +kernel
theorem dX8_readsLaw_5 : decode cX8_readsLaw 5 = .ok (.aload_n 0, 1) := by decide +kernel
theorem dX8_readsLaw_6 : decode cX8_readsLaw 6 = .ok (.aload_n 0, 1) := by decide +kernel
theorem dX8_readsLaw_7 : decode cX8_readsLaw 7 = .ok (.getfield 56, 3) := by decide +kernel
theorem dX8_readsLaw_10 : decode cX8_readsLaw 10 = .ok (.aload_n 0, 1) := by decide +kernel
theorem dX8_readsLaw_11 : decode cX8_readsLaw 11 = .ok (.getfield 155, 3) := by decide +kernel
theorem dX8_readsLaw_14 : decode cX8_readsLaw 14 = .ok (.iaload, 1) := by decide +kernel
theorem dX8_readsLaw_15 : decode cX8_readsLaw 15 = .ok (.putfield 133, 3) := by decide +kernel
theorem dX8_readsLaw_18 : decode cX8_readsLaw 18 = .ok (.aload_n 0, 1) := by decide +kernel
theorem dX8_readsLaw_19 : decode cX8_readsLaw 19 = .ok (.iconst 0, 1) := by decide +kernel
theorem dX8_readsLaw_20 : decode cX8_readsLaw 20 = .ok (.putfield 136, 3) := by decide +kernel
theorem dX8_readsLaw_23 : decode cX8_readsLaw 23 = .ok (.aload_n 0, 1) := by decide +kernel
theorem dX8_readsLaw_24 : decode cX8_readsLaw 24 = .ok (.iconst 0, 1) := by decide +kernel
theorem dX8_readsLaw_25 : decode cX8_readsLaw 25 = .ok (.putfield 149, 3) := by decide +kernel
theorem dX8_readsLaw_28 : decode cX8_readsLaw 28 = .ok (.iconst 1, 1) := by decide +kernel
theorem dX8_readsLaw_29 : decode cX8_readsLaw 29 = .ok (.istore_n 1, 1) := by decide +kernel
theorem dX8_readsLaw_30 : decode cX8_readsLaw 30 = .ok (.aload_n 0, 1) := by decide +kernel
theorem dX8_readsLaw_31 : decode cX8_readsLaw 31 = .ok (.getfield 99, 3) := by decide +kernel
theorem dX8_readsLaw_34 : decode cX8_readsLaw 34 = .ok (.aload_n 0, 1) := by decide +kernel
theorem dX8_readsLaw_35 : decode cX8_readsLaw 35 = .ok (.getfield 90, 3) := by decide +kernel
theorem dX8_readsLaw_38 : decode cX8_readsLaw 38 = .ok (.if_icmp .ge 55, 3) := by decide +kernel
theorem dX8_readsLaw_41 : decode cX8_readsLaw 41 = .ok (.iload_n 1, 1) := by decide +kernel
theorem dX8_readsLaw_42 : decode cX8_readsLaw 42 = .ok (.ifCond .eq 10, 3) := by decide +kernel
theorem dX8_readsLaw_45 : decode cX8_readsLaw 45 = .ok (.aload_n 0, 1) := by decide +kernel
theorem dX8_readsLaw_46 : decode cX8_readsLaw 46 = .ok (.invokevirtual 158, 3) := by decide +kernel
theorem dX8_readsLaw_49 : decode cX8_readsLaw 49 = .ok (.goto 7, 3) := by decide +kernel
theorem dX8_readsLaw_52 : decode cX8_readsLaw 52 = .ok (.aload_n 0, 1) := by decide +kernel
theorem dX8_readsLaw_53 : decode cX8_readsLaw 53 = .ok (.invokevirtual 161, 3) := by decide +kernel
theorem dX8_readsLaw_56 : decode cX8_readsLaw 56 = .ok (.istore_n 2, 1) := by decide +kernel
theorem dX8_readsLaw_57 : decode cX8_readsLaw 57 = .ok (.iload_n 2, 1) := by decide +kernel
theorem dX8_readsLaw_58 : decode cX8_readsLaw 58 = .ok (.ifCond .ge 5, 3) := by decide +kernel
theorem dX8_readsLaw_61 : decode cX8_readsLaw 61 = .ok (.iconst 0, 1) := by decide +kernel
theorem dX8_readsLaw_62 : decode cX8_readsLaw 62 = .ok (.ireturn, 1) := by decide +kernel
theorem dX8_readsLaw_63 : decode cX8_readsLaw 63 = .ok (.iload_n 1, 1) := by decide +kernel
theorem dX8_readsLaw_64 : decode cX8_readsLaw 64 = .ok (.ifCond .eq 15, 3) := by decide +kernel
theorem dX8_readsLaw_67 : decode cX8_readsLaw 67 = .ok (.iload_n 2, 1) := by decide +kernel
theorem dX8_readsLaw_68 : decode cX8_readsLaw 68 = .ok (.ifCond .ne 7, 3) := by decide +kernel
theorem dX8_readsLaw_71 : decode cX8_readsLaw 71 = .ok (.iconst 1, 1) := by decide +kernel
theorem dX8_readsLaw_72 : decode cX8_readsLaw 72 = .ok (.goto 17, 3) := by decide +kernel
theorem dX8_readsLaw_75 : decode cX8_readsLaw 75 = .ok (.iconst 0, 1) := by decide +kernel
theorem dX8_readsLaw_76 : decode cX8_readsLaw 76 = .ok (.goto 13, 3) := by decide +kernel
theorem dX8_readsLaw_79 : decode cX8_readsLaw 79 = .ok (.iload_n 2, 1) := by decide +kernel
theorem dX8_readsLaw_80 : decode cX8_readsLaw 80 = .ok (.iconst 1, 1) := by decide +kernel
theorem dX8_readsLaw_81 : decode cX8_readsLaw 81 = .ok (.if_icmp .ne 7, 3) := by decide +kernel
theorem dX8_readsLaw_84 : decode cX8_readsLaw 84 = .ok (.iconst 1, 1) := by decide +kernel
theorem dX8_readsLaw_85 : decode cX8_readsLaw 85 = .ok (.goto 4, 3) := by decide +kernel
theorem dX8_readsLaw_88 : decode cX8_readsLaw 88 = .ok (.iconst 0, 1) := by decide +kernel
theorem dX8_readsLaw_89 : decode cX8_readsLaw 89 = .ok (.istore_n 1, 1) := by decide +kernel
theorem dX8_readsLaw_90 : decode cX8_readsLaw 90 = .ok (.goto (-60), 3) := by decide +kernel
theorem dX8_readsLaw_93 : decode cX8_readsLaw 93 = .ok (.iload_n 1, 1) := by decide +kernel
theorem dX8_readsLaw_94 : decode cX8_readsLaw 94 = .ok (.ifCond .ne 10, 3) := by decide +kernel
theorem dX8_readsLaw_97 : decode cX8_readsLaw 97 = .ok (.aload_n 0, 1) := by decide +kernel
theorem dX8_readsLaw_98 : decode cX8_readsLaw 98 = .ok (.getfield 149, 3) := by decide +kernel
theorem dX8_readsLaw_101 : decode cX8_readsLaw 101 = .ok (.ifCond .le 5, 3) := by decide +kernel
theorem dX8_readsLaw_104 : decode cX8_readsLaw 104 = .ok (.iconst 0, 1) := by decide +kernel
theorem dX8_readsLaw_105 : decode cX8_readsLaw 105 = .ok (.ireturn, 1) := by decide +kernel
theorem dX8_readsLaw_106 : decode cX8_readsLaw 106 = .ok (.aload_n 0, 1) := by decide +kernel
theorem dX8_readsLaw_107 : decode cX8_readsLaw 107 = .ok (.iconst 0, 1) := by decide +kernel
theorem dX8_readsLaw_108 : decode cX8_readsLaw 108 = .ok (.invokevirtual 152, 3) := by decide +kernel
theorem dX8_readsLaw_111 : decode cX8_readsLaw 111 = .ok (.iconst 1, 1) := by decide +kernel
theorem dX8_readsLaw_112 : decode cX8_readsLaw 112 = .ok (.ireturn, 1) := by decide +kernel
theorem dX8_loss_0 : decode cX8_loss 0 = .ok (.iload_n 1, 1) := by decide +kernel
theorem dX8_loss_1 : decode cX8_loss 1 = .ok (.iconst 0, 1) := by decide +kernel
theorem dX8_loss_2 : decode cX8_loss 2 = .ok (.bipush 6, 2) := by decide +kernel
theorem dX8_loss_4 : decode cX8_loss 4 = .ok (.invokestatic 106, 3) := by decide +kernel
theorem dX8_loss_7 : decode cX8_loss 7 = .ok (.ifCond .ne 9, 3) := by decide +kernel
theorem dX8_loss_10 : decode cX8_loss 10 = .ok (.aload_n 0, 1) := by decide +kernel
theorem dX8_loss_11 : decode cX8_loss 11 = .ok (.iconst (-1), 1) := by decide +kernel
theorem dX8_loss_12 : decode cX8_loss 12 = .ok (.invokevirtual 93, 3) := by decide +kernel
theorem dX8_loss_15 : decode cX8_loss 15 = .ok (.ireturn, 1) := by decide +kernel
theorem dX8_loss_16 : decode cX8_loss 16 = .ok (.iload_n 2, 1) := by decide +kernel
theorem dX8_loss_17 : decode cX8_loss 17 = .ok (.sipush 9999, 3) := by decide +kernel
theorem dX8_loss_20 : decode cX8_loss 20 = .ok (.iload_n 3, 1) := by decide +kernel
theorem dX8_loss_21 : decode cX8_loss 21 = .ok (.sipush 9999, 3) := by decide +kernel
theorem dX8_loss_24 : decode cX8_loss 24 = .ok (.invokestatic 164, 3) := by decide +kernel
theorem dX8_loss_27 : decode cX8_loss 27 = .ok (.istore 4, 2) := by decide +kernel
theorem dX8_loss_29 : decode cX8_loss 29 = .ok (.iload 4, 2) := by decide +kernel
theorem dX8_loss_31 : decode cX8_loss 31 = .ok (.ifCond .ne 16, 3) := by decide +kernel
theorem dX8_loss_34 : decode cX8_loss 34 = .ok (.aload_n 0, 1) := by decide +kernel
theorem dX8_loss_35 : decode cX8_loss 35 = .ok (.getfield 155, 3) := by decide +kernel
theorem dX8_loss_38 : decode cX8_loss 38 = .ok (.bipush 8, 2) := by decide +kernel
theorem dX8_loss_40 : decode cX8_loss 40 = .ok (.if_icmp .ne 7, 3) := by decide +kernel
theorem dX8_loss_43 : decode cX8_loss 43 = .ok (.bipush (-6), 2) := by decide +kernel
theorem dX8_loss_45 : decode cX8_loss 45 = .ok (.istore 4, 2) := by decide +kernel
theorem dX8_loss_47 : decode cX8_loss 47 = .ok (.iload 4, 2) := by decide +kernel
theorem dX8_loss_49 : decode cX8_loss 49 = .ok (.ifCond .ne 18, 3) := by decide +kernel
theorem dX8_loss_52 : decode cX8_loss 52 = .ok (.iload_n 1, 1) := by decide +kernel
theorem dX8_loss_53 : decode cX8_loss 53 = .ok (.bipush 6, 2) := by decide +kernel
theorem dX8_loss_55 : decode cX8_loss 55 = .ok (.if_icmp .ne 12, 3) := by decide +kernel
theorem dX8_loss_58 : decode cX8_loss 58 = .ok (.iload_n 2, 1) := by decide +kernel
theorem dX8_loss_59 : decode cX8_loss 59 = .ok (.iload_n 3, 1) := by decide +kernel
theorem dX8_loss_60 : decode cX8_loss 60 = .ok (.if_icmp .le 7, 3) := by decide +kernel
theorem dX8_loss_63 : decode cX8_loss 63 = .ok (.bipush (-3), 2) := by decide +kernel
theorem dX8_loss_65 : decode cX8_loss 65 = .ok (.istore 4, 2) := by decide +kernel
theorem dX8_loss_67 : decode cX8_loss 67 = .ok (.iload 4, 2) := by decide +kernel
theorem dX8_loss_69 : decode cX8_loss 69 = .ok (.ifCond .eq 10, 3) := by decide +kernel
theorem dX8_loss_72 : decode cX8_loss 72 = .ok (.aload_n 0, 1) := by decide +kernel
theorem dX8_loss_73 : decode cX8_loss 73 = .ok (.iload 4, 2) := by decide +kernel
theorem dX8_loss_75 : decode cX8_loss 75 = .ok (.invokevirtual 93, 3) := by decide +kernel
theorem dX8_loss_78 : decode cX8_loss 78 = .ok (.ireturn, 1) := by decide +kernel
theorem dX8_loss_79 : decode cX8_loss 79 = .ok (.aload_n 0, 1) := by decide +kernel
theorem dX8_loss_80 : decode cX8_loss 80 = .ok (.invokevirtual 168, 3) := by decide +kernel
theorem dX8_loss_83 : decode cX8_loss 83 = .ok (.istore 5, 2) := by decide +kernel
theorem dX8_loss_85 : decode cX8_loss 85 = .ok (.aload_n 0, 1) := by decide +kernel
theorem dX8_loss_86 : decode cX8_loss 86 = .ok (.iconst 0, 1) := by decide +kernel
theorem dX8_loss_87 : decode cX8_loss 87 = .ok (.putfield 90, 3) := by decide +kernel
theorem dX8_loss_90 : decode cX8_loss 90 = .ok (.iload 5, 2) := by decide +kernel
theorem dX8_loss_92 : decode cX8_loss 92 = .ok (.ifCond .ne 11, 3) := by decide +kernel
theorem dX8_loss_95 : decode cX8_loss 95 = .ok (.bipush (-20), 2) := by decide +kernel
theorem dX8_loss_97 : decode cX8_loss 97 = .ok (.aload_n 0, 1) := by decide +kernel
theorem dX8_loss_98 : decode cX8_loss 98 = .ok (.getfield 99, 3) := by decide +kernel
theorem dX8_loss_101 : decode cX8_loss 101 = .ok (.isub, 1) := by decide +kernel
theorem dX8_loss_102 : decode cX8_loss 102 = .ok (.ireturn, 1) := by decide +kernel
theorem dX8_loss_103 : decode cX8_loss 103 = .ok (.aload_n 0, 1) := by decide +kernel
theorem dX8_loss_104 : decode cX8_loss 104 = .ok (.getfield 41, 3) := by decide +kernel
theorem dX8_loss_107 : decode cX8_loss 107 = .ok (.aload_n 0, 1) := by decide +kernel
theorem dX8_loss_108 : decode cX8_loss 108 = .ok (.getfield 155, 3) := by decide +kernel
theorem dX8_loss_111 : decode cX8_loss 111 = .ok (.iload_n 1, 1) := by decide +kernel
theorem dX8_loss_112 : decode cX8_loss 112 = .ok (.iastore, 1) := by decide +kernel
theorem dX8_loss_113 : decode cX8_loss 113 = .ok (.aload_n 0, 1) := by decide +kernel
theorem dX8_loss_114 : decode cX8_loss 114 = .ok (.getfield 44, 3) := by decide +kernel
theorem dX8_loss_117 : decode cX8_loss 117 = .ok (.aload_n 0, 1) := by decide +kernel
theorem dX8_loss_118 : decode cX8_loss 118 = .ok (.getfield 155, 3) := by decide +kernel
theorem dX8_loss_121 : decode cX8_loss 121 = .ok (.iload_n 2, 1) := by decide +kernel
theorem dX8_loss_122 : decode cX8_loss 122 = .ok (.iastore, 1) := by decide +kernel
theorem dX8_loss_123 : decode cX8_loss 123 = .ok (.aload_n 0, 1) := by decide +kernel
theorem dX8_loss_124 : decode cX8_loss 124 = .ok (.getfield 47, 3) := by decide +kernel
theorem dX8_loss_127 : decode cX8_loss 127 = .ok (.aload_n 0, 1) := by decide +kernel
theorem dX8_loss_128 : decode cX8_loss 128 = .ok (.getfield 155, 3) := by decide +kernel
theorem dX8_loss_131 : decode cX8_loss 131 = .ok (.iload_n 3, 1) := by decide +kernel
theorem dX8_loss_132 : decode cX8_loss 132 = .ok (.iastore, 1) := by decide +kernel
theorem dX8_loss_133 : decode cX8_loss 133 = .ok (.aload_n 0, 1) := by decide +kernel
theorem dX8_loss_134 : decode cX8_loss 134 = .ok (.getfield 50, 3) := by decide +kernel
theorem dX8_loss_137 : decode cX8_loss 137 = .ok (.aload_n 0, 1) := by decide +kernel
theorem dX8_loss_138 : decode cX8_loss 138 = .ok (.getfield 155, 3) := by decide +kernel
theorem dX8_loss_141 : decode cX8_loss 141 = .ok (.iconst 0, 1) := by decide +kernel
theorem dX8_loss_142 : decode cX8_loss 142 = .ok (.iastore, 1) := by decide +kernel
theorem dX8_loss_143 : decode cX8_loss 143 = .ok (.aload_n 0, 1) := by decide +kernel
theorem dX8_loss_144 : decode cX8_loss 144 = .ok (.dup, 1) := by decide +kernel
theorem dX8_loss_145 : decode cX8_loss 145 = .ok (.getfield 155, 3) := by decide +kernel
theorem dX8_loss_148 : decode cX8_loss 148 = .ok (.iconst 1, 1) := by decide +kernel
theorem dX8_loss_149 : decode cX8_loss 149 = .ok (.iadd, 1) := by decide +kernel
theorem dX8_loss_150 : decode cX8_loss 150 = .ok (.putfield 155, 3) := by decide +kernel
theorem dX8_loss_153 : decode cX8_loss 153 = .ok (.aload_n 0, 1) := by decide +kernel
theorem dX8_loss_154 : decode cX8_loss 154 = .ok (.getfield 56, 3) := by decide +kernel
theorem dX8_loss_157 : decode cX8_loss 157 = .ok (.aload_n 0, 1) := by decide +kernel
theorem dX8_loss_158 : decode cX8_loss 158 = .ok (.getfield 155, 3) := by decide +kernel
theorem dX8_loss_161 : decode cX8_loss 161 = .ok (.aload_n 0, 1) := by decide +kernel
theorem dX8_loss_162 : decode cX8_loss 162 = .ok (.getfield 133, 3) := by decide +kernel
theorem dX8_loss_165 : decode cX8_loss 165 = .ok (.iastore, 1) := by decide +kernel
theorem dX8_loss_166 : decode cX8_loss 166 = .ok (.aload_n 0, 1) := by decide +kernel
theorem dX8_loss_167 : decode cX8_loss 167 = .ok (.getfield 155, 3) := by decide +kernel
theorem dX8_loss_170 : decode cX8_loss 170 = .ok (.iconst 1, 1) := by decide +kernel
theorem dX8_loss_171 : decode cX8_loss 171 = .ok (.isub, 1) := by decide +kernel
theorem dX8_loss_172 : decode cX8_loss 172 = .ok (.ireturn, 1) := by decide +kernel
theorem dX8_isLoss_0 : decode cX8_isLoss 0 = .ok (.iload_n 1, 1) := by decide +kernel
theorem dX8_isLoss_1 : decode cX8_isLoss 1 = .ok (.ifCond .lt 15, 3) := by decide +kernel
theorem dX8_isLoss_4 : decode cX8_isLoss 4 = .ok (.iload_n 1, 1) := by decide +kernel
theorem dX8_isLoss_5 : decode cX8_isLoss 5 = .ok (.aload_n 0, 1) := by decide +kernel
theorem dX8_isLoss_6 : decode cX8_isLoss 6 = .ok (.getfield 155, 3) := by decide +kernel
theorem dX8_isLoss_9 : decode cX8_isLoss 9 = .ok (.if_icmp .ge 7, 3) := by decide +kernel
theorem dX8_isLoss_12 : decode cX8_isLoss 12 = .ok (.iconst 1, 1) := by decide +kernel
theorem dX8_isLoss_13 : decode cX8_isLoss 13 = .ok (.goto 4, 3) := by decide +kernel
theorem dX8_isLoss_16 : decode cX8_isLoss 16 = .ok (.iconst 0, 1) := by decide +kernel
theorem dX8_isLoss_17 : decode cX8_isLoss 17 = .ok (.ireturn, 1) := by decide +kernel
theorem dX8_lossOf_0 : decode cX8_lossOf 0 = .ok (.aload_n 0, 1) := by decide +kernel
theorem dX8_lossOf_1 : decode cX8_lossOf 1 = .ok (.iload_n 1, 1) := by decide +kernel
theorem dX8_lossOf_2 : decode cX8_lossOf 2 = .ok (.invokevirtual 171, 3) := by decide +kernel
theorem dX8_lossOf_5 : decode cX8_lossOf 5 = .ok (.ifCond .ne 9, 3) := by decide +kernel
theorem dX8_lossOf_8 : decode cX8_lossOf 8 = .ok (.aload_n 0, 1) := by decide +kernel
theorem dX8_lossOf_9 : decode cX8_lossOf 9 = .ok (.iconst (-1), 1) := by decide +kernel
theorem dX8_lossOf_10 : decode cX8_lossOf 10 = .ok (.invokevirtual 93, 3) := by decide +kernel
theorem dX8_lossOf_13 : decode cX8_lossOf 13 = .ok (.ireturn, 1) := by decide +kernel
theorem dX8_lossOf_14 : decode cX8_lossOf 14 = .ok (.iload_n 2, 1) := by decide +kernel
theorem dX8_lossOf_15 : decode cX8_lossOf 15 = .ok (.tableswitch 57 0 3 #[29, 36, 43, 50], 29) := by decide +kernel
theorem dX8_lossOf_44 : decode cX8_lossOf 44 = .ok (.aload_n 0, 1) := by decide +kernel
theorem dX8_lossOf_45 : decode cX8_lossOf 45 = .ok (.getfield 41, 3) := by decide +kernel
theorem dX8_lossOf_48 : decode cX8_lossOf 48 = .ok (.iload_n 1, 1) := by decide +kernel
theorem dX8_lossOf_49 : decode cX8_lossOf 49 = .ok (.iaload, 1) := by decide +kernel
theorem dX8_lossOf_50 : decode cX8_lossOf 50 = .ok (.ireturn, 1) := by decide +kernel
theorem dX8_lossOf_51 : decode cX8_lossOf 51 = .ok (.aload_n 0, 1) := by decide +kernel
theorem dX8_lossOf_52 : decode cX8_lossOf 52 = .ok (.getfield 44, 3) := by decide +kernel
theorem dX8_lossOf_55 : decode cX8_lossOf 55 = .ok (.iload_n 1, 1) := by decide +kernel
theorem dX8_lossOf_56 : decode cX8_lossOf 56 = .ok (.iaload, 1) := by decide +kernel
theorem dX8_lossOf_57 : decode cX8_lossOf 57 = .ok (.ireturn, 1) := by decide +kernel
theorem dX8_lossOf_58 : decode cX8_lossOf 58 = .ok (.aload_n 0, 1) := by decide +kernel
theorem dX8_lossOf_59 : decode cX8_lossOf 59 = .ok (.getfield 47, 3) := by decide +kernel
theorem dX8_lossOf_62 : decode cX8_lossOf 62 = .ok (.iload_n 1, 1) := by decide +kernel
theorem dX8_lossOf_63 : decode cX8_lossOf 63 = .ok (.iaload, 1) := by decide +kernel
theorem dX8_lossOf_64 : decode cX8_lossOf 64 = .ok (.ireturn, 1) := by decide +kernel
theorem dX8_lossOf_65 : decode cX8_lossOf 65 = .ok (.aload_n 0, 1) := by decide +kernel
theorem dX8_lossOf_66 : decode cX8_lossOf 66 = .ok (.getfield 50, 3) := by decide +kernel
theorem dX8_lossOf_69 : decode cX8_lossOf 69 = .ok (.iload_n 1, 1) := by decide +kernel
theorem dX8_lossOf_70 : decode cX8_lossOf 70 = .ok (.iaload, 1) := by decide +kernel
theorem dX8_lossOf_71 : decode cX8_lossOf 71 = .ok (.ireturn, 1) := by decide +kernel
theorem dX8_lossOf_72 : decode cX8_lossOf 72 = .ok (.aload_n 0, 1) := by decide +kernel
theorem dX8_lossOf_73 : decode cX8_lossOf 73 = .ok (.bipush (-2), 2) := by decide +kernel
theorem dX8_lossOf_75 : decode cX8_lossOf 75 = .ok (.invokevirtual 93, 3) := by decide +kernel
theorem dX8_lossOf_78 : decode cX8_lossOf 78 = .ok (.ireturn, 1) := by decide +kernel
theorem dX8_floor_0 : decode cX8_floor 0 = .ok (.iload_n 1, 1) := by decide +kernel
theorem dX8_floor_1 : decode cX8_floor 1 = .ok (.invokestatic 174, 3) := by decide +kernel
theorem dX8_floor_4 : decode cX8_floor 4 = .ok (.ifCond .ne 9, 3) := by decide +kernel
theorem dX8_floor_7 : decode cX8_floor 7 = .ok (.aload_n 0, 1) := by decide +kernel
theorem dX8_floor_8 : decode cX8_floor 8 = .ok (.iconst (-1), 1) := by decide +kernel
theorem dX8_floor_9 : decode cX8_floor 9 = .ok (.invokevirtual 93, 3) := by decide +kernel
theorem dX8_floor_12 : decode cX8_floor 12 = .ok (.ireturn, 1) := by decide +kernel
theorem dX8_floor_13 : decode cX8_floor 13 = .ok (.iload_n 2, 1) := by decide +kernel
theorem dX8_floor_14 : decode cX8_floor 14 = .ok (.iconst 0, 1) := by decide +kernel
theorem dX8_floor_15 : decode cX8_floor 15 = .ok (.iconst 1, 1) := by decide +kernel
theorem dX8_floor_16 : decode cX8_floor 16 = .ok (.invokestatic 106, 3) := by decide +kernel
theorem dX8_floor_19 : decode cX8_floor 19 = .ok (.ifCond .ne 10, 3) := by decide +kernel
theorem dX8_floor_22 : decode cX8_floor 22 = .ok (.aload_n 0, 1) := by decide +kernel
theorem dX8_floor_23 : decode cX8_floor 23 = .ok (.bipush (-2), 2) := by decide +kernel
theorem dX8_floor_25 : decode cX8_floor 25 = .ok (.invokevirtual 93, 3) := by decide +kernel
theorem dX8_floor_28 : decode cX8_floor 28 = .ok (.ireturn, 1) := by decide +kernel
theorem dX8_floor_29 : decode cX8_floor 29 = .ok (.iload_n 3, 1) := by decide +kernel
theorem dX8_floor_30 : decode cX8_floor 30 = .ok (.iconst 0, 1) := by decide +kernel
theorem dX8_floor_31 : decode cX8_floor 31 = .ok (.bipush 9, 2) := by decide +kernel
theorem dX8_floor_33 : decode cX8_floor 33 = .ok (.invokestatic 86, 3) := by decide +kernel
theorem dX8_floor_36 : decode cX8_floor 36 = .ok (.istore 4, 2) := by decide +kernel
theorem dX8_floor_38 : decode cX8_floor 38 = .ok (.iload 4, 2) := by decide +kernel
theorem dX8_floor_40 : decode cX8_floor 40 = .ok (.ifCond .eq 10, 3) := by decide +kernel
theorem dX8_floor_43 : decode cX8_floor 43 = .ok (.aload_n 0, 1) := by decide +kernel
theorem dX8_floor_44 : decode cX8_floor 44 = .ok (.iload 4, 2) := by decide +kernel
theorem dX8_floor_46 : decode cX8_floor 46 = .ok (.invokevirtual 93, 3) := by decide +kernel
theorem dX8_floor_49 : decode cX8_floor 49 = .ok (.ireturn, 1) := by decide +kernel
theorem dX8_floor_50 : decode cX8_floor 50 = .ok (.iload_n 2, 1) := by decide +kernel
theorem dX8_floor_51 : decode cX8_floor 51 = .ok (.ifCond .ne 12, 3) := by decide +kernel
theorem dX8_floor_54 : decode cX8_floor 54 = .ok (.aload_n 0, 1) := by decide +kernel
theorem dX8_floor_55 : decode cX8_floor 55 = .ok (.getfield 31, 3) := by decide +kernel
theorem dX8_floor_58 : decode cX8_floor 58 = .ok (.iload_n 1, 1) := by decide +kernel
theorem dX8_floor_59 : decode cX8_floor 59 = .ok (.iaload, 1) := by decide +kernel
theorem dX8_floor_60 : decode cX8_floor 60 = .ok (.goto 9, 3) := by decide +kernel
theorem dX8_floor_63 : decode cX8_floor 63 = .ok (.aload_n 0, 1) := by decide +kernel
theorem dX8_floor_64 : decode cX8_floor 64 = .ok (.getfield 34, 3) := by decide +kernel
theorem dX8_floor_67 : decode cX8_floor 67 = .ok (.iload_n 1, 1) := by decide +kernel
theorem dX8_floor_68 : decode cX8_floor 68 = .ok (.iaload, 1) := by decide +kernel
theorem dX8_floor_69 : decode cX8_floor 69 = .ok (.istore 5, 2) := by decide +kernel
theorem dX8_floor_71 : decode cX8_floor 71 = .ok (.iload_n 2, 1) := by decide +kernel
theorem dX8_floor_72 : decode cX8_floor 72 = .ok (.ifCond .ne 13, 3) := by decide +kernel
theorem dX8_floor_75 : decode cX8_floor 75 = .ok (.aload_n 0, 1) := by decide +kernel
theorem dX8_floor_76 : decode cX8_floor 76 = .ok (.getfield 31, 3) := by decide +kernel
theorem dX8_floor_79 : decode cX8_floor 79 = .ok (.iload_n 1, 1) := by decide +kernel
theorem dX8_floor_80 : decode cX8_floor 80 = .ok (.iload_n 3, 1) := by decide +kernel
theorem dX8_floor_81 : decode cX8_floor 81 = .ok (.iastore, 1) := by decide +kernel
theorem dX8_floor_82 : decode cX8_floor 82 = .ok (.goto 10, 3) := by decide +kernel
theorem dX8_floor_85 : decode cX8_floor 85 = .ok (.aload_n 0, 1) := by decide +kernel
theorem dX8_floor_86 : decode cX8_floor 86 = .ok (.getfield 34, 3) := by decide +kernel
theorem dX8_floor_89 : decode cX8_floor 89 = .ok (.iload_n 1, 1) := by decide +kernel
theorem dX8_floor_90 : decode cX8_floor 90 = .ok (.iload_n 3, 1) := by decide +kernel
theorem dX8_floor_91 : decode cX8_floor 91 = .ok (.iastore, 1) := by decide +kernel
theorem dX8_floor_92 : decode cX8_floor 92 = .ok (.iload 5, 2) := by decide +kernel
theorem dX8_floor_94 : decode cX8_floor 94 = .ok (.ireturn, 1) := by decide +kernel
theorem dX8_air_0 : decode cX8_air 0 = .ok (.aload_n 0, 1) := by decide +kernel
theorem dX8_air_1 : decode cX8_air 1 = .ok (.getfield 37, 3) := by decide +kernel
theorem dX8_air_4 : decode cX8_air 4 = .ok (.iconst 1, 1) := by decide +kernel
theorem dX8_air_5 : decode cX8_air 5 = .ok (.if_icmp .ne 7, 3) := by decide +kernel
theorem dX8_air_8 : decode cX8_air 8 = .ok (.iconst 1, 1) := by decide +kernel
theorem dX8_air_9 : decode cX8_air 9 = .ok (.goto 4, 3) := by decide +kernel
theorem dX8_air_12 : decode cX8_air 12 = .ok (.iconst 0, 1) := by decide +kernel
theorem dX8_air_13 : decode cX8_air 13 = .ok (.iload_n 1, 1) := by decide +kernel
theorem dX8_air_14 : decode cX8_air 14 = .ok (.if_icmp .ne 5, 3) := by decide +kernel
theorem dX8_air_17 : decode cX8_air 17 = .ok (.iconst 0, 1) := by decide +kernel
theorem dX8_air_18 : decode cX8_air 18 = .ok (.ireturn, 1) := by decide +kernel
theorem dX8_air_19 : decode cX8_air 19 = .ok (.aload_n 0, 1) := by decide +kernel
theorem dX8_air_20 : decode cX8_air 20 = .ok (.iload_n 1, 1) := by decide +kernel
theorem dX8_air_21 : decode cX8_air 21 = .ok (.ifCond .eq 7, 3) := by decide +kernel
theorem dX8_air_24 : decode cX8_air 24 = .ok (.iconst 1, 1) := by decide +kernel
theorem dX8_air_25 : decode cX8_air 25 = .ok (.goto 4, 3) := by decide +kernel
theorem dX8_air_28 : decode cX8_air 28 = .ok (.iconst 0, 1) := by decide +kernel
theorem dX8_air_29 : decode cX8_air 29 = .ok (.putfield 37, 3) := by decide +kernel
theorem dX8_air_32 : decode cX8_air 32 = .ok (.iconst 1, 1) := by decide +kernel
theorem dX8_air_33 : decode cX8_air 33 = .ok (.ireturn, 1) := by decide +kernel
theorem dX8_toneOf_0 : decode cX8_toneOf 0 = .ok (.sipush 9000, 3) := by decide +kernel
theorem dX8_toneOf_3 : decode cX8_toneOf 3 = .ok (.iload_n 2, 1) := by decide +kernel
theorem dX8_toneOf_4 : decode cX8_toneOf 4 = .ok (.bipush 10, 2) := by decide +kernel
theorem dX8_toneOf_6 : decode cX8_toneOf 6 = .ok (.iadd, 1) := by decide +kernel
theorem dX8_toneOf_7 : decode cX8_toneOf 7 = .ok (.idiv, 1) := by decide +kernel
theorem dX8_toneOf_8 : decode cX8_toneOf 8 = .ok (.bipush 100, 2) := by decide +kernel
theorem dX8_toneOf_10 : decode cX8_toneOf 10 = .ok (.aload_n 0, 1) := by decide +kernel
theorem dX8_toneOf_11 : decode cX8_toneOf 11 = .ok (.getfield 28, 3) := by decide +kernel
theorem dX8_toneOf_14 : decode cX8_toneOf 14 = .ok (.iload_n 1, 1) := by decide +kernel
theorem dX8_toneOf_15 : decode cX8_toneOf 15 = .ok (.iaload, 1) := by decide +kernel
theorem dX8_toneOf_16 : decode cX8_toneOf 16 = .ok (.iadd, 1) := by decide +kernel
theorem dX8_toneOf_17 : decode cX8_toneOf 17 = .ok (.imul, 1) := by decide +kernel
theorem dX8_toneOf_18 : decode cX8_toneOf 18 = .ok (.bipush 10, 2) := by decide +kernel
theorem dX8_toneOf_20 : decode cX8_toneOf 20 = .ok (.aload_n 0, 1) := by decide +kernel
theorem dX8_toneOf_21 : decode cX8_toneOf 21 = .ok (.getfield 19, 3) := by decide +kernel
theorem dX8_toneOf_24 : decode cX8_toneOf 24 = .ok (.iload_n 1, 1) := by decide +kernel
theorem dX8_toneOf_25 : decode cX8_toneOf 25 = .ok (.iaload, 1) := by decide +kernel
theorem dX8_toneOf_26 : decode cX8_toneOf 26 = .ok (.bipush 10, 2) := by decide +kernel
theorem dX8_toneOf_28 : decode cX8_toneOf 28 = .ok (.idiv, 1) := by decide +kernel
theorem dX8_toneOf_29 : decode cX8_toneOf 29 = .ok (.iadd, 1) := by decide +kernel
theorem dX8_toneOf_30 : decode cX8_toneOf 30 = .ok (.idiv, 1) := by decide +kernel
theorem dX8_toneOf_31 : decode cX8_toneOf 31 = .ok (.ireturn, 1) := by decide +kernel
theorem dX8_fieldOf_0 : decode cX8_fieldOf 0 = .ok (.iload_n 1, 1) := by decide +kernel
theorem dX8_fieldOf_1 : decode cX8_fieldOf 1 = .ok (.tableswitch 144 98 119 #[130, 144, 116, 123, 137, 144, 144, 144, 144, 144, 103, 144, 144, 144, 144, 144, 144, 144, 106, 144, 144, 109], 103) := by decide +kernel
theorem dX8_fieldOf_104 : decode cX8_fieldOf 104 = .ok (.iload 4, 2) := by decide +kernel
theorem dX8_fieldOf_106 : decode cX8_fieldOf 106 = .ok (.ireturn, 1) := by decide +kernel
theorem dX8_fieldOf_107 : decode cX8_fieldOf 107 = .ok (.iload 5, 2) := by decide +kernel
theorem dX8_fieldOf_109 : decode cX8_fieldOf 109 = .ok (.ireturn, 1) := by decide +kernel
theorem dX8_fieldOf_110 : decode cX8_fieldOf 110 = .ok (.aload_n 0, 1) := by decide +kernel
theorem dX8_fieldOf_111 : decode cX8_fieldOf 111 = .ok (.getfield 16, 3) := by decide +kernel
theorem dX8_fieldOf_114 : decode cX8_fieldOf 114 = .ok (.iload_n 2, 1) := by decide +kernel
theorem dX8_fieldOf_115 : decode cX8_fieldOf 115 = .ok (.iaload, 1) := by decide +kernel
theorem dX8_fieldOf_116 : decode cX8_fieldOf 116 = .ok (.ireturn, 1) := by decide +kernel
theorem dX8_fieldOf_117 : decode cX8_fieldOf 117 = .ok (.aload_n 0, 1) := by decide +kernel
theorem dX8_fieldOf_118 : decode cX8_fieldOf 118 = .ok (.getfield 19, 3) := by decide +kernel
theorem dX8_fieldOf_121 : decode cX8_fieldOf 121 = .ok (.iload_n 2, 1) := by decide +kernel
theorem dX8_fieldOf_122 : decode cX8_fieldOf 122 = .ok (.iaload, 1) := by decide +kernel
theorem dX8_fieldOf_123 : decode cX8_fieldOf 123 = .ok (.ireturn, 1) := by decide +kernel
theorem dX8_fieldOf_124 : decode cX8_fieldOf 124 = .ok (.aload_n 0, 1) := by decide +kernel
theorem dX8_fieldOf_125 : decode cX8_fieldOf 125 = .ok (.getfield 22, 3) := by decide +kernel
theorem dX8_fieldOf_128 : decode cX8_fieldOf 128 = .ok (.iload_n 2, 1) := by decide +kernel
theorem dX8_fieldOf_129 : decode cX8_fieldOf 129 = .ok (.iaload, 1) := by decide +kernel
theorem dX8_fieldOf_130 : decode cX8_fieldOf 130 = .ok (.ireturn, 1) := by decide +kernel
theorem dX8_fieldOf_131 : decode cX8_fieldOf 131 = .ok (.aload_n 0, 1) := by decide +kernel
theorem dX8_fieldOf_132 : decode cX8_fieldOf 132 = .ok (.getfield 28, 3) := by decide +kernel
theorem dX8_fieldOf_135 : decode cX8_fieldOf 135 = .ok (.iload_n 2, 1) := by decide +kernel
theorem dX8_fieldOf_136 : decode cX8_fieldOf 136 = .ok (.iaload, 1) := by decide +kernel
theorem dX8_fieldOf_137 : decode cX8_fieldOf 137 = .ok (.ireturn, 1) := by decide +kernel
theorem dX8_fieldOf_138 : decode cX8_fieldOf 138 = .ok (.aload_n 0, 1) := by decide +kernel
theorem dX8_fieldOf_139 : decode cX8_fieldOf 139 = .ok (.getfield 31, 3) := by decide +kernel
theorem dX8_fieldOf_142 : decode cX8_fieldOf 142 = .ok (.iload_n 3, 1) := by decide +kernel
theorem dX8_fieldOf_143 : decode cX8_fieldOf 143 = .ok (.iaload, 1) := by decide +kernel
theorem dX8_fieldOf_144 : decode cX8_fieldOf 144 = .ok (.ireturn, 1) := by decide +kernel
theorem dX8_fieldOf_145 : decode cX8_fieldOf 145 = .ok (.aload_n 0, 1) := by decide +kernel
theorem dX8_fieldOf_146 : decode cX8_fieldOf 146 = .ok (.getfield 34, 3) := by decide +kernel
theorem dX8_fieldOf_149 : decode cX8_fieldOf 149 = .ok (.iload_n 3, 1) := by decide +kernel
theorem dX8_fieldOf_150 : decode cX8_fieldOf 150 = .ok (.iaload, 1) := by decide +kernel
theorem dX8_fieldOf_151 : decode cX8_fieldOf 151 = .ok (.ireturn, 1) := by decide +kernel
theorem dX8_two_0 : decode cX8_two 0 = .ok (.iload_n 0, 1) := by decide +kernel
theorem dX8_two_1 : decode cX8_two 1 = .ok (.bipush 43, 2) := by decide +kernel
theorem dX8_two_3 : decode cX8_two 3 = .ok (.if_icmp .ne 9, 3) := by decide +kernel
theorem dX8_two_6 : decode cX8_two 6 = .ok (.iload_n 1, 1) := by decide +kernel
theorem dX8_two_7 : decode cX8_two 7 = .ok (.iload_n 2, 1) := by decide +kernel
theorem dX8_two_8 : decode cX8_two 8 = .ok (.iadd, 1) := by decide +kernel
theorem dX8_two_9 : decode cX8_two 9 = .ok (.goto 38, 3) := by decide +kernel
theorem dX8_two_12 : decode cX8_two 12 = .ok (.iload_n 0, 1) := by decide +kernel
theorem dX8_two_13 : decode cX8_two 13 = .ok (.bipush 45, 2) := by decide +kernel
theorem dX8_two_15 : decode cX8_two 15 = .ok (.if_icmp .ne 9, 3) := by decide +kernel
theorem dX8_two_18 : decode cX8_two 18 = .ok (.iload_n 1, 1) := by decide +kernel
theorem dX8_two_19 : decode cX8_two 19 = .ok (.iload_n 2, 1) := by decide +kernel
theorem dX8_two_20 : decode cX8_two 20 = .ok (.isub, 1) := by decide +kernel
theorem dX8_two_21 : decode cX8_two 21 = .ok (.goto 26, 3) := by decide +kernel
theorem dX8_two_24 : decode cX8_two 24 = .ok (.iload_n 0, 1) := by decide +kernel
theorem dX8_two_25 : decode cX8_two 25 = .ok (.bipush 42, 2) := by decide +kernel
theorem dX8_two_27 : decode cX8_two 27 = .ok (.if_icmp .ne 9, 3) := by decide +kernel
theorem dX8_two_30 : decode cX8_two 30 = .ok (.iload_n 1, 1) := by decide +kernel
theorem dX8_two_31 : decode cX8_two 31 = .ok (.iload_n 2, 1) := by decide +kernel
theorem dX8_two_32 : decode cX8_two 32 = .ok (.imul, 1) := by decide +kernel
theorem dX8_two_33 : decode cX8_two 33 = .ok (.goto 14, 3) := by decide +kernel
theorem dX8_two_36 : decode cX8_two 36 = .ok (.iload_n 2, 1) := by decide +kernel
theorem dX8_two_37 : decode cX8_two 37 = .ok (.ifCond .ne 7, 3) := by decide +kernel
theorem dX8_two_40 : decode cX8_two 40 = .ok (.iconst 0, 1) := by decide +kernel
theorem dX8_two_41 : decode cX8_two 41 = .ok (.goto 6, 3) := by decide +kernel
theorem dX8_two_44 : decode cX8_two 44 = .ok (.iload_n 1, 1) := by decide +kernel
theorem dX8_two_45 : decode cX8_two 45 = .ok (.iload_n 2, 1) := by decide +kernel
theorem dX8_two_46 : decode cX8_two 46 = .ok (.idiv, 1) := by decide +kernel
theorem dX8_two_47 : decode cX8_two 47 = .ok (.ireturn, 1) := by decide +kernel
theorem dX8_lawOf_0 : decode cX8_lawOf 0 = .ok (.iconst 0, 1) := by decide +kernel
theorem dX8_lawOf_1 : decode cX8_lawOf 1 = .ok (.istore 6, 2) := by decide +kernel
theorem dX8_lawOf_3 : decode cX8_lawOf 3 = .ok (.aload_n 0, 1) := by decide +kernel
theorem dX8_lawOf_4 : decode cX8_lawOf 4 = .ok (.getfield 56, 3) := by decide +kernel
theorem dX8_lawOf_7 : decode cX8_lawOf 7 = .ok (.iload_n 1, 1) := by decide +kernel
theorem dX8_lawOf_8 : decode cX8_lawOf 8 = .ok (.iaload, 1) := by decide +kernel
theorem dX8_lawOf_9 : decode cX8_lawOf 9 = .ok (.istore 7, 2) := by decide +kernel
theorem dX8_lawOf_11 : decode cX8_lawOf 11 = .ok (.iload 7, 2) := by decide +kernel
theorem dX8_lawOf_13 : decode cX8_lawOf 13 = .ok (.aload_n 0, 1) := by decide +kernel
theorem dX8_lawOf_14 : decode cX8_lawOf 14 = .ok (.getfield 56, 3) := by decide +kernel
theorem dX8_lawOf_17 : decode cX8_lawOf 17 = .ok (.iload_n 1, 1) := by decide +kernel
theorem dX8_lawOf_18 : decode cX8_lawOf 18 = .ok (.iconst 1, 1) := by decide +kernel
theorem dX8_lawOf_19 : decode cX8_lawOf 19 = .ok (.iadd, 1) := by decide +kernel
theorem dX8_lawOf_20 : decode cX8_lawOf 20 = .ok (.iaload, 1) := by decide +kernel
theorem dX8_lawOf_21 : decode cX8_lawOf 21 = .ok (.if_icmp .ge 111, 3) := by decide +kernel
theorem dX8_lawOf_24 : decode cX8_lawOf 24 = .ok (.aload_n 0, 1) := by decide +kernel
theorem dX8_lawOf_25 : decode cX8_lawOf 25 = .ok (.getfield 53, 3) := by decide +kernel
theorem dX8_lawOf_28 : decode cX8_lawOf 28 = .ok (.iload 7, 2) := by decide +kernel
theorem dX8_lawOf_30 : decode cX8_lawOf 30 = .ok (.iaload, 1) := by decide +kernel
theorem dX8_lawOf_31 : decode cX8_lawOf 31 = .ok (.istore 8, 2) := by decide +kernel
theorem dX8_lawOf_33 : decode cX8_lawOf 33 = .ok (.iload 8, 2) := by decide +kernel
theorem dX8_lawOf_35 : decode cX8_lawOf 35 = .ok (.sipush 1000, 3) := by decide +kernel
theorem dX8_lawOf_38 : decode cX8_lawOf 38 = .ok (.if_icmp .lt 22, 3) := by decide +kernel
theorem dX8_lawOf_41 : decode cX8_lawOf 41 = .ok (.aload_n 0, 1) := by decide +kernel
theorem dX8_lawOf_42 : decode cX8_lawOf 42 = .ok (.getfield 62, 3) := by decide +kernel
theorem dX8_lawOf_45 : decode cX8_lawOf 45 = .ok (.iload 6, 2) := by decide +kernel
theorem dX8_lawOf_47 : decode cX8_lawOf 47 = .ok (.iload 8, 2) := by decide +kernel
theorem dX8_lawOf_49 : decode cX8_lawOf 49 = .ok (.sipush 1000, 3) := by decide +kernel
theorem dX8_lawOf_52 : decode cX8_lawOf 52 = .ok (.isub, 1) := by decide +kernel
theorem dX8_lawOf_53 : decode cX8_lawOf 53 = .ok (.iastore, 1) := by decide +kernel
theorem dX8_lawOf_54 : decode cX8_lawOf 54 = .ok (.iinc 6 1, 3) := by decide +kernel
theorem dX8_lawOf_57 : decode cX8_lawOf 57 = .ok (.goto 69, 3) := by decide +kernel
theorem dX8_lawOf_60 : decode cX8_lawOf 60 = .ok (.iload 8, 2) := by decide +kernel
theorem dX8_lawOf_62 : decode cX8_lawOf 62 = .ok (.invokestatic 146, 3) := by decide +kernel
theorem dX8_lawOf_65 : decode cX8_lawOf 65 = .ok (.ifCond .eq 28, 3) := by decide +kernel
theorem dX8_lawOf_68 : decode cX8_lawOf 68 = .ok (.aload_n 0, 1) := by decide +kernel
theorem dX8_lawOf_69 : decode cX8_lawOf 69 = .ok (.getfield 62, 3) := by decide +kernel
theorem dX8_lawOf_72 : decode cX8_lawOf 72 = .ok (.iload 6, 2) := by decide +kernel
theorem dX8_lawOf_74 : decode cX8_lawOf 74 = .ok (.aload_n 0, 1) := by decide +kernel
theorem dX8_lawOf_75 : decode cX8_lawOf 75 = .ok (.iload 8, 2) := by decide +kernel
theorem dX8_lawOf_77 : decode cX8_lawOf 77 = .ok (.iload_n 2, 1) := by decide +kernel
theorem dX8_lawOf_78 : decode cX8_lawOf 78 = .ok (.iload_n 3, 1) := by decide +kernel
theorem dX8_lawOf_79 : decode cX8_lawOf 79 = .ok (.iload 4, 2) := by decide +kernel
theorem dX8_lawOf_81 : decode cX8_lawOf 81 = .ok (.iload 5, 2) := by decide +kernel
theorem dX8_lawOf_83 : decode cX8_lawOf 83 = .ok (.invokevirtual 177, 3) := by decide +kernel
theorem dX8_lawOf_86 : decode cX8_lawOf 86 = .ok (.iastore, 1) := by decide +kernel
theorem dX8_lawOf_87 : decode cX8_lawOf 87 = .ok (.iinc 6 1, 3) := by decide +kernel
theorem dX8_lawOf_90 : decode cX8_lawOf 90 = .ok (.goto 36, 3) := by decide +kernel
theorem dX8_lawOf_93 : decode cX8_lawOf 93 = .ok (.iinc 6 (-1), 3) := by decide +kernel
theorem dX8_lawOf_96 : decode cX8_lawOf 96 = .ok (.aload_n 0, 1) := by decide +kernel
theorem dX8_lawOf_97 : decode cX8_lawOf 97 = .ok (.getfield 62, 3) := by decide +kernel
theorem dX8_lawOf_100 : decode cX8_lawOf 100 = .ok (.iload 6, 2) := by decide +kernel
theorem dX8_lawOf_102 : decode cX8_lawOf 102 = .ok (.iconst 1, 1) := by decide +kernel
theorem dX8_lawOf_103 : decode cX8_lawOf 103 = .ok (.isub, 1) := by decide +kernel
theorem dX8_lawOf_104 : decode cX8_lawOf 104 = .ok (.iload 8, 2) := by decide +kernel
theorem dX8_lawOf_106 : decode cX8_lawOf 106 = .ok (.aload_n 0, 1) := by decide +kernel
theorem dX8_lawOf_107 : decode cX8_lawOf 107 = .ok (.getfield 62, 3) := by decide +kernel
theorem dX8_lawOf_110 : decode cX8_lawOf 110 = .ok (.iload 6, 2) := by decide +kernel
theorem dX8_lawOf_112 : decode cX8_lawOf 112 = .ok (.iconst 1, 1) := by decide +kernel
theorem dX8_lawOf_113 : decode cX8_lawOf 113 = .ok (.isub, 1) := by decide +kernel
theorem dX8_lawOf_114 : decode cX8_lawOf 114 = .ok (.iaload, 1) := by decide +kernel
theorem dX8_lawOf_115 : decode cX8_lawOf 115 = .ok (.aload_n 0, 1) := by decide +kernel
theorem dX8_lawOf_116 : decode cX8_lawOf 116 = .ok (.getfield 62, 3) := by decide +kernel
theorem dX8_lawOf_119 : decode cX8_lawOf 119 = .ok (.iload 6, 2) := by decide +kernel
theorem dX8_lawOf_121 : decode cX8_lawOf 121 = .ok (.iaload, 1) := by decide +kernel
theorem dX8_lawOf_122 : decode cX8_lawOf 122 = .ok (.invokestatic 181, 3) := by decide +kernel
theorem dX8_lawOf_125 : decode cX8_lawOf 125 = .ok (.iastore, 1) := by decide +kernel
theorem dX8_lawOf_126 : decode cX8_lawOf 126 = .ok (.iinc 7 1, 3) := by decide +kernel
theorem dX8_lawOf_129 : decode cX8_lawOf 129 = .ok (.goto (-118), 3) := by decide +kernel
theorem dX8_lawOf_132 : decode cX8_lawOf 132 = .ok (.aload_n 0, 1) := by decide +kernel
theorem dX8_lawOf_133 : decode cX8_lawOf 133 = .ok (.getfield 62, 3) := by decide +kernel
theorem dX8_lawOf_136 : decode cX8_lawOf 136 = .ok (.iconst 0, 1) := by decide +kernel
theorem dX8_lawOf_137 : decode cX8_lawOf 137 = .ok (.iaload, 1) := by decide +kernel
theorem dX8_lawOf_138 : decode cX8_lawOf 138 = .ok (.ifCond .ge 7, 3) := by decide +kernel
theorem dX8_lawOf_141 : decode cX8_lawOf 141 = .ok (.iconst 0, 1) := by decide +kernel
theorem dX8_lawOf_142 : decode cX8_lawOf 142 = .ok (.goto 27, 3) := by decide +kernel
theorem dX8_lawOf_145 : decode cX8_lawOf 145 = .ok (.aload_n 0, 1) := by decide +kernel
theorem dX8_lawOf_146 : decode cX8_lawOf 146 = .ok (.getfield 62, 3) := by decide +kernel
theorem dX8_lawOf_149 : decode cX8_lawOf 149 = .ok (.iconst 0, 1) := by decide +kernel
theorem dX8_lawOf_150 : decode cX8_lawOf 150 = .ok (.iaload, 1) := by decide +kernel
theorem dX8_lawOf_151 : decode cX8_lawOf 151 = .ok (.sipush 9999, 3) := by decide +kernel
theorem dX8_lawOf_154 : decode cX8_lawOf 154 = .ok (.if_icmp .le 9, 3) := by decide +kernel
theorem dX8_lawOf_157 : decode cX8_lawOf 157 = .ok (.sipush 9999, 3) := by decide +kernel
theorem dX8_lawOf_160 : decode cX8_lawOf 160 = .ok (.goto 9, 3) := by decide +kernel
theorem dX8_lawOf_163 : decode cX8_lawOf 163 = .ok (.aload_n 0, 1) := by decide +kernel
theorem dX8_lawOf_164 : decode cX8_lawOf 164 = .ok (.getfield 62, 3) := by decide +kernel
theorem dX8_lawOf_167 : decode cX8_lawOf 167 = .ok (.iconst 0, 1) := by decide +kernel
theorem dX8_lawOf_168 : decode cX8_lawOf 168 = .ok (.iaload, 1) := by decide +kernel
theorem dX8_lawOf_169 : decode cX8_lawOf 169 = .ok (.ireturn, 1) := by decide +kernel
theorem dX8_takeOf_0 : decode cX8_takeOf 0 = .ok (.aload_n 0, 1) := by decide +kernel
theorem dX8_takeOf_1 : decode cX8_takeOf 1 = .ok (.aload_n 0, 1) := by decide +kernel
theorem dX8_takeOf_2 : decode cX8_takeOf 2 = .ok (.getfield 184, 3) := by decide +kernel
theorem dX8_takeOf_5 : decode cX8_takeOf 5 = .ok (.aload_n 0, 1) := by decide +kernel
theorem dX8_takeOf_6 : decode cX8_takeOf 6 = .ok (.getfield 187, 3) := by decide +kernel
theorem dX8_takeOf_9 : decode cX8_takeOf 9 = .ok (.invokevirtual 190, 3) := by decide +kernel
theorem dX8_takeOf_12 : decode cX8_takeOf 12 = .ok (.istore 5, 2) := by decide +kernel
theorem dX8_takeOf_14 : decode cX8_takeOf 14 = .ok (.iload_n 2, 1) := by decide +kernel
theorem dX8_takeOf_15 : decode cX8_takeOf 15 = .ok (.tableswitch 257 0 6 #[41, 257, 107, 138, 184, 257, 220], 41) := by decide +kernel
theorem dX8_takeOf_56 : decode cX8_takeOf 56 = .ok (.aload_n 0, 1) := by decide +kernel
theorem dX8_takeOf_57 : decode cX8_takeOf 57 = .ok (.getfield 194, 3) := by decide +kernel
theorem dX8_takeOf_60 : decode cX8_takeOf 60 = .ok (.ifCond .ne 5, 3) := by decide +kernel
theorem dX8_takeOf_63 : decode cX8_takeOf 63 = .ok (.iconst 0, 1) := by decide +kernel
theorem dX8_takeOf_64 : decode cX8_takeOf 64 = .ok (.ireturn, 1) := by decide +kernel
theorem dX8_takeOf_65 : decode cX8_takeOf 65 = .ok (.aload_n 0, 1) := by decide +kernel
theorem dX8_takeOf_66 : decode cX8_takeOf 66 = .ok (.getfield 25, 3) := by decide +kernel
theorem dX8_takeOf_69 : decode cX8_takeOf 69 = .ok (.aload_n 0, 1) := by decide +kernel
theorem dX8_takeOf_70 : decode cX8_takeOf 70 = .ok (.getfield 184, 3) := by decide +kernel
theorem dX8_takeOf_73 : decode cX8_takeOf 73 = .ok (.iaload, 1) := by decide +kernel
theorem dX8_takeOf_74 : decode cX8_takeOf 74 = .ok (.iconst 5, 1) := by decide +kernel
theorem dX8_takeOf_75 : decode cX8_takeOf 75 = .ok (.if_icmp .lt 27, 3) := by decide +kernel
theorem dX8_takeOf_78 : decode cX8_takeOf 78 = .ok (.aload_n 0, 1) := by decide +kernel
theorem dX8_takeOf_79 : decode cX8_takeOf 79 = .ok (.iload_n 1, 1) := by decide +kernel
theorem dX8_takeOf_80 : decode cX8_takeOf 80 = .ok (.aload_n 0, 1) := by decide +kernel
theorem dX8_takeOf_81 : decode cX8_takeOf 81 = .ok (.getfield 184, 3) := by decide +kernel
theorem dX8_takeOf_84 : decode cX8_takeOf 84 = .ok (.aload_n 0, 1) := by decide +kernel
theorem dX8_takeOf_85 : decode cX8_takeOf 85 = .ok (.getfield 197, 3) := by decide +kernel
theorem dX8_takeOf_88 : decode cX8_takeOf 88 = .ok (.aload_n 0, 1) := by decide +kernel
theorem dX8_takeOf_89 : decode cX8_takeOf 89 = .ok (.getfield 187, 3) := by decide +kernel
theorem dX8_takeOf_92 : decode cX8_takeOf 92 = .ok (.iload 5, 2) := by decide +kernel
theorem dX8_takeOf_94 : decode cX8_takeOf 94 = .ok (.invokevirtual 200, 3) := by decide +kernel
theorem dX8_takeOf_97 : decode cX8_takeOf 97 = .ok (.iconst 2, 1) := by decide +kernel
theorem dX8_takeOf_98 : decode cX8_takeOf 98 = .ok (.idiv, 1) := by decide +kernel
theorem dX8_takeOf_99 : decode cX8_takeOf 99 = .ok (.goto 22, 3) := by decide +kernel
theorem dX8_takeOf_102 : decode cX8_takeOf 102 = .ok (.aload_n 0, 1) := by decide +kernel
theorem dX8_takeOf_103 : decode cX8_takeOf 103 = .ok (.iload_n 1, 1) := by decide +kernel
theorem dX8_takeOf_104 : decode cX8_takeOf 104 = .ok (.aload_n 0, 1) := by decide +kernel
theorem dX8_takeOf_105 : decode cX8_takeOf 105 = .ok (.getfield 184, 3) := by decide +kernel
theorem dX8_takeOf_108 : decode cX8_takeOf 108 = .ok (.aload_n 0, 1) := by decide +kernel
theorem dX8_takeOf_109 : decode cX8_takeOf 109 = .ok (.getfield 197, 3) := by decide +kernel
theorem dX8_takeOf_112 : decode cX8_takeOf 112 = .ok (.aload_n 0, 1) := by decide +kernel
theorem dX8_takeOf_113 : decode cX8_takeOf 113 = .ok (.getfield 187, 3) := by decide +kernel
theorem dX8_takeOf_116 : decode cX8_takeOf 116 = .ok (.iload 5, 2) := by decide +kernel
theorem dX8_takeOf_118 : decode cX8_takeOf 118 = .ok (.invokevirtual 200, 3) := by decide +kernel
theorem dX8_takeOf_121 : decode cX8_takeOf 121 = .ok (.ireturn, 1) := by decide +kernel
theorem dX8_takeOf_122 : decode cX8_takeOf 122 = .ok (.iload 5, 2) := by decide +kernel
theorem dX8_takeOf_124 : decode cX8_takeOf 124 = .ok (.bipush 100, 2) := by decide +kernel
theorem dX8_takeOf_126 : decode cX8_takeOf 126 = .ok (.if_icmp .lt 25, 3) := by decide +kernel
theorem dX8_takeOf_129 : decode cX8_takeOf 129 = .ok (.aload_n 0, 1) := by decide +kernel
theorem dX8_takeOf_130 : decode cX8_takeOf 130 = .ok (.iload_n 1, 1) := by decide +kernel
theorem dX8_takeOf_131 : decode cX8_takeOf 131 = .ok (.aload_n 0, 1) := by decide +kernel
theorem dX8_takeOf_132 : decode cX8_takeOf 132 = .ok (.getfield 184, 3) := by decide +kernel
theorem dX8_takeOf_135 : decode cX8_takeOf 135 = .ok (.aload_n 0, 1) := by decide +kernel
theorem dX8_takeOf_136 : decode cX8_takeOf 136 = .ok (.getfield 197, 3) := by decide +kernel
theorem dX8_takeOf_139 : decode cX8_takeOf 139 = .ok (.aload_n 0, 1) := by decide +kernel
theorem dX8_takeOf_140 : decode cX8_takeOf 140 = .ok (.getfield 187, 3) := by decide +kernel
theorem dX8_takeOf_143 : decode cX8_takeOf 143 = .ok (.iload 5, 2) := by decide +kernel
theorem dX8_takeOf_145 : decode cX8_takeOf 145 = .ok (.invokevirtual 200, 3) := by decide +kernel
theorem dX8_takeOf_148 : decode cX8_takeOf 148 = .ok (.goto 4, 3) := by decide +kernel
theorem dX8_takeOf_151 : decode cX8_takeOf 151 = .ok (.iconst 0, 1) := by decide +kernel
theorem dX8_takeOf_152 : decode cX8_takeOf 152 = .ok (.ireturn, 1) := by decide +kernel
theorem dX8_takeOf_153 : decode cX8_takeOf 153 = .ok (.aload_n 0, 1) := by decide +kernel
theorem dX8_takeOf_154 : decode cX8_takeOf 154 = .ok (.getfield 187, 3) := by decide +kernel
theorem dX8_takeOf_157 : decode cX8_takeOf 157 = .ok (.bipush 10, 2) := by decide +kernel
theorem dX8_takeOf_159 : decode cX8_takeOf 159 = .ok (.bipush 9, 2) := by decide +kernel
theorem dX8_takeOf_161 : decode cX8_takeOf 161 = .ok (.aload_n 0, 1) := by decide +kernel
theorem dX8_takeOf_162 : decode cX8_takeOf 162 = .ok (.getfield 22, 3) := by decide +kernel
theorem dX8_takeOf_165 : decode cX8_takeOf 165 = .ok (.aload_n 0, 1) := by decide +kernel
theorem dX8_takeOf_166 : decode cX8_takeOf 166 = .ok (.getfield 184, 3) := by decide +kernel
theorem dX8_takeOf_169 : decode cX8_takeOf 169 = .ok (.iaload, 1) := by decide +kernel
theorem dX8_takeOf_170 : decode cX8_takeOf 170 = .ok (.isub, 1) := by decide +kernel
theorem dX8_takeOf_171 : decode cX8_takeOf 171 = .ok (.imul, 1) := by decide +kernel
theorem dX8_takeOf_172 : decode cX8_takeOf 172 = .ok (.if_icmp .ge 25, 3) := by decide +kernel
theorem dX8_takeOf_175 : decode cX8_takeOf 175 = .ok (.aload_n 0, 1) := by decide +kernel
theorem dX8_takeOf_176 : decode cX8_takeOf 176 = .ok (.iload_n 1, 1) := by decide +kernel
theorem dX8_takeOf_177 : decode cX8_takeOf 177 = .ok (.aload_n 0, 1) := by decide +kernel
theorem dX8_takeOf_178 : decode cX8_takeOf 178 = .ok (.getfield 184, 3) := by decide +kernel
theorem dX8_takeOf_181 : decode cX8_takeOf 181 = .ok (.aload_n 0, 1) := by decide +kernel
theorem dX8_takeOf_182 : decode cX8_takeOf 182 = .ok (.getfield 197, 3) := by decide +kernel
theorem dX8_takeOf_185 : decode cX8_takeOf 185 = .ok (.aload_n 0, 1) := by decide +kernel
theorem dX8_takeOf_186 : decode cX8_takeOf 186 = .ok (.getfield 187, 3) := by decide +kernel
theorem dX8_takeOf_189 : decode cX8_takeOf 189 = .ok (.iload 5, 2) := by decide +kernel
theorem dX8_takeOf_191 : decode cX8_takeOf 191 = .ok (.invokevirtual 200, 3) := by decide +kernel
theorem dX8_takeOf_194 : decode cX8_takeOf 194 = .ok (.goto 4, 3) := by decide +kernel
theorem dX8_takeOf_197 : decode cX8_takeOf 197 = .ok (.iconst 0, 1) := by decide +kernel
theorem dX8_takeOf_198 : decode cX8_takeOf 198 = .ok (.ireturn, 1) := by decide +kernel
theorem dX8_takeOf_199 : decode cX8_takeOf 199 = .ok (.aload_n 0, 1) := by decide +kernel
theorem dX8_takeOf_200 : decode cX8_takeOf 200 = .ok (.iload_n 1, 1) := by decide +kernel
theorem dX8_takeOf_201 : decode cX8_takeOf 201 = .ok (.aload_n 0, 1) := by decide +kernel
theorem dX8_takeOf_202 : decode cX8_takeOf 202 = .ok (.getfield 184, 3) := by decide +kernel
theorem dX8_takeOf_205 : decode cX8_takeOf 205 = .ok (.aload_n 0, 1) := by decide +kernel
theorem dX8_takeOf_206 : decode cX8_takeOf 206 = .ok (.getfield 197, 3) := by decide +kernel
theorem dX8_takeOf_209 : decode cX8_takeOf 209 = .ok (.aload_n 0, 1) := by decide +kernel
theorem dX8_takeOf_210 : decode cX8_takeOf 210 = .ok (.getfield 187, 3) := by decide +kernel
theorem dX8_takeOf_213 : decode cX8_takeOf 213 = .ok (.iload 5, 2) := by decide +kernel
theorem dX8_takeOf_215 : decode cX8_takeOf 215 = .ok (.invokevirtual 200, 3) := by decide +kernel
theorem dX8_takeOf_218 : decode cX8_takeOf 218 = .ok (.bipush 9, 2) := by decide +kernel
theorem dX8_takeOf_220 : decode cX8_takeOf 220 = .ok (.aload_n 0, 1) := by decide +kernel
theorem dX8_takeOf_221 : decode cX8_takeOf 221 = .ok (.getfield 31, 3) := by decide +kernel
theorem dX8_takeOf_224 : decode cX8_takeOf 224 = .ok (.aload_n 0, 1) := by decide +kernel
theorem dX8_takeOf_225 : decode cX8_takeOf 225 = .ok (.getfield 197, 3) := by decide +kernel
theorem dX8_takeOf_228 : decode cX8_takeOf 228 = .ok (.iaload, 1) := by decide +kernel
theorem dX8_takeOf_229 : decode cX8_takeOf 229 = .ok (.isub, 1) := by decide +kernel
theorem dX8_takeOf_230 : decode cX8_takeOf 230 = .ok (.imul, 1) := by decide +kernel
theorem dX8_takeOf_231 : decode cX8_takeOf 231 = .ok (.bipush 9, 2) := by decide +kernel
theorem dX8_takeOf_233 : decode cX8_takeOf 233 = .ok (.idiv, 1) := by decide +kernel
theorem dX8_takeOf_234 : decode cX8_takeOf 234 = .ok (.ireturn, 1) := by decide +kernel
theorem dX8_takeOf_235 : decode cX8_takeOf 235 = .ok (.aload_n 0, 1) := by decide +kernel
theorem dX8_takeOf_236 : decode cX8_takeOf 236 = .ok (.getfield 203, 3) := by decide +kernel
theorem dX8_takeOf_239 : decode cX8_takeOf 239 = .ok (.iload_n 3, 1) := by decide +kernel
theorem dX8_takeOf_240 : decode cX8_takeOf 240 = .ok (.iload 4, 2) := by decide +kernel
theorem dX8_takeOf_242 : decode cX8_takeOf 242 = .ok (.invokestatic 106, 3) := by decide +kernel
theorem dX8_takeOf_245 : decode cX8_takeOf 245 = .ok (.ifCond .eq 25, 3) := by decide +kernel
theorem dX8_takeOf_248 : decode cX8_takeOf 248 = .ok (.aload_n 0, 1) := by decide +kernel
theorem dX8_takeOf_249 : decode cX8_takeOf 249 = .ok (.iload_n 1, 1) := by decide +kernel
theorem dX8_takeOf_250 : decode cX8_takeOf 250 = .ok (.aload_n 0, 1) := by decide +kernel
theorem dX8_takeOf_251 : decode cX8_takeOf 251 = .ok (.getfield 184, 3) := by decide +kernel
theorem dX8_takeOf_254 : decode cX8_takeOf 254 = .ok (.aload_n 0, 1) := by decide +kernel
theorem dX8_takeOf_255 : decode cX8_takeOf 255 = .ok (.getfield 197, 3) := by decide +kernel
theorem dX8_takeOf_258 : decode cX8_takeOf 258 = .ok (.aload_n 0, 1) := by decide +kernel
theorem dX8_takeOf_259 : decode cX8_takeOf 259 = .ok (.getfield 187, 3) := by decide +kernel
theorem dX8_takeOf_262 : decode cX8_takeOf 262 = .ok (.iload 5, 2) := by decide +kernel
theorem dX8_takeOf_264 : decode cX8_takeOf 264 = .ok (.invokevirtual 200, 3) := by decide +kernel
theorem dX8_takeOf_267 : decode cX8_takeOf 267 = .ok (.goto 4, 3) := by decide +kernel
theorem dX8_takeOf_270 : decode cX8_takeOf 270 = .ok (.iconst 0, 1) := by decide +kernel
theorem dX8_takeOf_271 : decode cX8_takeOf 271 = .ok (.ireturn, 1) := by decide +kernel
theorem dX8_takeOf_272 : decode cX8_takeOf 272 = .ok (.aload_n 0, 1) := by decide +kernel
theorem dX8_takeOf_273 : decode cX8_takeOf 273 = .ok (.iload_n 1, 1) := by decide +kernel
theorem dX8_takeOf_274 : decode cX8_takeOf 274 = .ok (.aload_n 0, 1) := by decide +kernel
theorem dX8_takeOf_275 : decode cX8_takeOf 275 = .ok (.getfield 184, 3) := by decide +kernel
theorem dX8_takeOf_278 : decode cX8_takeOf 278 = .ok (.aload_n 0, 1) := by decide +kernel
theorem dX8_takeOf_279 : decode cX8_takeOf 279 = .ok (.getfield 197, 3) := by decide +kernel
theorem dX8_takeOf_282 : decode cX8_takeOf 282 = .ok (.aload_n 0, 1) := by decide +kernel
theorem dX8_takeOf_283 : decode cX8_takeOf 283 = .ok (.getfield 187, 3) := by decide +kernel
theorem dX8_takeOf_286 : decode cX8_takeOf 286 = .ok (.iload 5, 2) := by decide +kernel
theorem dX8_takeOf_288 : decode cX8_takeOf 288 = .ok (.invokevirtual 200, 3) := by decide +kernel
theorem dX8_takeOf_291 : decode cX8_takeOf 291 = .ok (.ireturn, 1) := by decide +kernel
theorem dX8_begins_0 : decode cX8_begins 0 = .ok (.aload_n 0, 1) := by decide +kernel
theorem dX8_begins_1 : decode cX8_begins 1 = .ok (.iload_n 1, 1) := by decide +kernel
theorem dX8_begins_2 : decode cX8_begins 2 = .ok (.putfield 184, 3) := by decide +kernel
theorem dX8_begins_5 : decode cX8_begins 5 = .ok (.aload_n 0, 1) := by decide +kernel
theorem dX8_begins_6 : decode cX8_begins 6 = .ok (.iload_n 2, 1) := by decide +kernel
theorem dX8_begins_7 : decode cX8_begins 7 = .ok (.putfield 187, 3) := by decide +kernel
theorem dX8_begins_10 : decode cX8_begins 10 = .ok (.aload_n 0, 1) := by decide +kernel
theorem dX8_begins_11 : decode cX8_begins 11 = .ok (.iload_n 3, 1) := by decide +kernel
theorem dX8_begins_12 : decode cX8_begins 12 = .ok (.putfield 197, 3) := by decide +kernel
theorem dX8_begins_15 : decode cX8_begins 15 = .ok (.aload_n 0, 1) := by decide +kernel
theorem dX8_begins_16 : decode cX8_begins 16 = .ok (.iload 4, 2) := by decide +kernel
theorem dX8_begins_18 : decode cX8_begins 18 = .ok (.putfield 206, 3) := by decide +kernel
theorem dX8_begins_21 : decode cX8_begins 21 = .ok (.aload_n 0, 1) := by decide +kernel
theorem dX8_begins_22 : decode cX8_begins 22 = .ok (.iconst 0, 1) := by decide +kernel
theorem dX8_begins_23 : decode cX8_begins 23 = .ok (.putfield 203, 3) := by decide +kernel
theorem dX8_begins_26 : decode cX8_begins 26 = .ok (.aload_n 0, 1) := by decide +kernel
theorem dX8_begins_27 : decode cX8_begins 27 = .ok (.aload_n 0, 1) := by decide +kernel
theorem dX8_begins_28 : decode cX8_begins 28 = .ok (.getfield 37, 3) := by decide +kernel
theorem dX8_begins_31 : decode cX8_begins 31 = .ok (.putfield 194, 3) := by decide +kernel
theorem dX8_begins_34 : decode cX8_begins 34 = .ok (.aload_n 0, 1) := by decide +kernel
theorem dX8_begins_35 : decode cX8_begins 35 = .ok (.iconst (-1), 1) := by decide +kernel
theorem dX8_begins_36 : decode cX8_begins 36 = .ok (.putfield 209, 3) := by decide +kernel
theorem dX8_begins_39 : decode cX8_begins 39 = .ok (.return_, 1) := by decide +kernel
theorem dX8_reckons_0 : decode cX8_reckons 0 = .ok (.aload_n 0, 1) := by decide +kernel
theorem dX8_reckons_1 : decode cX8_reckons 1 = .ok (.getfield 187, 3) := by decide +kernel
theorem dX8_reckons_4 : decode cX8_reckons 4 = .ok (.istore_n 2, 1) := by decide +kernel
theorem dX8_reckons_5 : decode cX8_reckons 5 = .ok (.aload_n 0, 1) := by decide +kernel
theorem dX8_reckons_6 : decode cX8_reckons 6 = .ok (.iconst 0, 1) := by decide +kernel
theorem dX8_reckons_7 : decode cX8_reckons 7 = .ok (.putfield 212, 3) := by decide +kernel
theorem dX8_reckons_10 : decode cX8_reckons 10 = .ok (.iconst 0, 1) := by decide +kernel
theorem dX8_reckons_11 : decode cX8_reckons 11 = .ok (.istore_n 3, 1) := by decide +kernel
theorem dX8_reckons_12 : decode cX8_reckons 12 = .ok (.iload_n 3, 1) := by decide +kernel
theorem dX8_reckons_13 : decode cX8_reckons 13 = .ok (.aload_n 0, 1) := by decide +kernel
theorem dX8_reckons_14 : decode cX8_reckons 14 = .ok (.getfield 155, 3) := by decide +kernel
theorem dX8_reckons_17 : decode cX8_reckons 17 = .ok (.if_icmp .gt 169, 3) := by decide +kernel
theorem dX8_reckons_20 : decode cX8_reckons 20 = .ok (.iload_n 3, 1) := by decide +kernel
theorem dX8_reckons_21 : decode cX8_reckons 21 = .ok (.aload_n 0, 1) := by decide +kernel
theorem dX8_reckons_22 : decode cX8_reckons 22 = .ok (.getfield 155, 3) := by decide +kernel
theorem dX8_reckons_25 : decode cX8_reckons 25 = .ok (.if_icmp .ne 7, 3) := by decide +kernel
theorem dX8_reckons_28 : decode cX8_reckons 28 = .ok (.iconst 1, 1) := by decide +kernel
theorem dX8_reckons_29 : decode cX8_reckons 29 = .ok (.goto 4, 3) := by decide +kernel
theorem dX8_reckons_32 : decode cX8_reckons 32 = .ok (.iconst 0, 1) := by decide +kernel
theorem dX8_reckons_33 : decode cX8_reckons 33 = .ok (.istore 4, 2) := by decide +kernel
theorem dX8_reckons_35 : decode cX8_reckons 35 = .ok (.iload 4, 2) := by decide +kernel
theorem dX8_reckons_37 : decode cX8_reckons 37 = .ok (.ifCond .eq 34, 3) := by decide +kernel
theorem dX8_reckons_40 : decode cX8_reckons 40 = .ok (.aload_n 0, 1) := by decide +kernel
theorem dX8_reckons_41 : decode cX8_reckons 41 = .ok (.getfield 209, 3) := by decide +kernel
theorem dX8_reckons_44 : decode cX8_reckons 44 = .ok (.ifCond .ge 7, 3) := by decide +kernel
theorem dX8_reckons_47 : decode cX8_reckons 47 = .ok (.iconst 0, 1) := by decide +kernel
theorem dX8_reckons_48 : decode cX8_reckons 48 = .ok (.goto 61, 3) := by decide +kernel
theorem dX8_reckons_51 : decode cX8_reckons 51 = .ok (.aload_n 0, 1) := by decide +kernel
theorem dX8_reckons_52 : decode cX8_reckons 52 = .ok (.aload_n 0, 1) := by decide +kernel
theorem dX8_reckons_53 : decode cX8_reckons 53 = .ok (.getfield 209, 3) := by decide +kernel
theorem dX8_reckons_56 : decode cX8_reckons 56 = .ok (.bipush 6, 2) := by decide +kernel
theorem dX8_reckons_58 : decode cX8_reckons 58 = .ok (.aload_n 0, 1) := by decide +kernel
theorem dX8_reckons_59 : decode cX8_reckons 59 = .ok (.getfield 216, 3) := by decide +kernel
theorem dX8_reckons_62 : decode cX8_reckons 62 = .ok (.sipush 9999, 3) := by decide +kernel
theorem dX8_reckons_65 : decode cX8_reckons 65 = .ok (.invokevirtual 219, 3) := by decide +kernel
theorem dX8_reckons_68 : decode cX8_reckons 68 = .ok (.goto 41, 3) := by decide +kernel
theorem dX8_reckons_71 : decode cX8_reckons 71 = .ok (.aload_n 0, 1) := by decide +kernel
theorem dX8_reckons_72 : decode cX8_reckons 72 = .ok (.getfield 206, 3) := by decide +kernel
theorem dX8_reckons_75 : decode cX8_reckons 75 = .ok (.iload_n 3, 1) := by decide +kernel
theorem dX8_reckons_76 : decode cX8_reckons 76 = .ok (.ishr, 1) := by decide +kernel
theorem dX8_reckons_77 : decode cX8_reckons 77 = .ok (.iconst 1, 1) := by decide +kernel
theorem dX8_reckons_78 : decode cX8_reckons 78 = .ok (.iand, 1) := by decide +kernel
theorem dX8_reckons_79 : decode cX8_reckons 79 = .ok (.ifCond .ne 7, 3) := by decide +kernel
theorem dX8_reckons_82 : decode cX8_reckons 82 = .ok (.iconst 0, 1) := by decide +kernel
theorem dX8_reckons_83 : decode cX8_reckons 83 = .ok (.goto 26, 3) := by decide +kernel
theorem dX8_reckons_86 : decode cX8_reckons 86 = .ok (.aload_n 0, 1) := by decide +kernel
theorem dX8_reckons_87 : decode cX8_reckons 87 = .ok (.iload_n 3, 1) := by decide +kernel
theorem dX8_reckons_88 : decode cX8_reckons 88 = .ok (.aload_n 0, 1) := by decide +kernel
theorem dX8_reckons_89 : decode cX8_reckons 89 = .ok (.getfield 41, 3) := by decide +kernel
theorem dX8_reckons_92 : decode cX8_reckons 92 = .ok (.iload_n 3, 1) := by decide +kernel
theorem dX8_reckons_93 : decode cX8_reckons 93 = .ok (.iaload, 1) := by decide +kernel
theorem dX8_reckons_94 : decode cX8_reckons 94 = .ok (.aload_n 0, 1) := by decide +kernel
theorem dX8_reckons_95 : decode cX8_reckons 95 = .ok (.getfield 44, 3) := by decide +kernel
theorem dX8_reckons_98 : decode cX8_reckons 98 = .ok (.iload_n 3, 1) := by decide +kernel
theorem dX8_reckons_99 : decode cX8_reckons 99 = .ok (.iaload, 1) := by decide +kernel
theorem dX8_reckons_100 : decode cX8_reckons 100 = .ok (.aload_n 0, 1) := by decide +kernel
theorem dX8_reckons_101 : decode cX8_reckons 101 = .ok (.getfield 47, 3) := by decide +kernel
theorem dX8_reckons_104 : decode cX8_reckons 104 = .ok (.iload_n 3, 1) := by decide +kernel
theorem dX8_reckons_105 : decode cX8_reckons 105 = .ok (.iaload, 1) := by decide +kernel
theorem dX8_reckons_106 : decode cX8_reckons 106 = .ok (.invokevirtual 219, 3) := by decide +kernel
theorem dX8_reckons_109 : decode cX8_reckons 109 = .ok (.istore 5, 2) := by decide +kernel
theorem dX8_reckons_111 : decode cX8_reckons 111 = .ok (.iload 5, 2) := by decide +kernel
theorem dX8_reckons_113 : decode cX8_reckons 113 = .ok (.iload_n 1, 1) := by decide +kernel
theorem dX8_reckons_114 : decode cX8_reckons 114 = .ok (.imul, 1) := by decide +kernel
theorem dX8_reckons_115 : decode cX8_reckons 115 = .ok (.istore 5, 2) := by decide +kernel
theorem dX8_reckons_117 : decode cX8_reckons 117 = .ok (.iload 5, 2) := by decide +kernel
theorem dX8_reckons_119 : decode cX8_reckons 119 = .ok (.iload_n 2, 1) := by decide +kernel
theorem dX8_reckons_120 : decode cX8_reckons 120 = .ok (.if_icmp .le 7, 3) := by decide +kernel
theorem dX8_reckons_123 : decode cX8_reckons 123 = .ok (.iload_n 2, 1) := by decide +kernel
theorem dX8_reckons_124 : decode cX8_reckons 124 = .ok (.goto 5, 3) := by decide +kernel
theorem dX8_reckons_127 : decode cX8_reckons 127 = .ok (.iload 5, 2) := by decide +kernel
theorem dX8_reckons_129 : decode cX8_reckons 129 = .ok (.istore 5, 2) := by decide +kernel
theorem dX8_reckons_131 : decode cX8_reckons 131 = .ok (.aload_n 0, 1) := by decide +kernel
theorem dX8_reckons_132 : decode cX8_reckons 132 = .ok (.getfield 65, 3) := by decide +kernel
theorem dX8_reckons_135 : decode cX8_reckons 135 = .ok (.iload_n 3, 1) := by decide +kernel
theorem dX8_reckons_136 : decode cX8_reckons 136 = .ok (.iload 5, 2) := by decide +kernel
theorem dX8_reckons_138 : decode cX8_reckons 138 = .ok (.iastore, 1) := by decide +kernel
theorem dX8_reckons_139 : decode cX8_reckons 139 = .ok (.iload_n 2, 1) := by decide +kernel
theorem dX8_reckons_140 : decode cX8_reckons 140 = .ok (.iload 5, 2) := by decide +kernel
theorem dX8_reckons_142 : decode cX8_reckons 142 = .ok (.isub, 1) := by decide +kernel
theorem dX8_reckons_143 : decode cX8_reckons 143 = .ok (.istore_n 2, 1) := by decide +kernel
theorem dX8_reckons_144 : decode cX8_reckons 144 = .ok (.aload_n 0, 1) := by decide +kernel
theorem dX8_reckons_145 : decode cX8_reckons 145 = .ok (.aload_n 0, 1) := by decide +kernel
theorem dX8_reckons_146 : decode cX8_reckons 146 = .ok (.getfield 212, 3) := by decide +kernel
theorem dX8_reckons_149 : decode cX8_reckons 149 = .ok (.ifCond .ne 23, 3) := by decide +kernel
theorem dX8_reckons_152 : decode cX8_reckons 152 = .ok (.iload 4, 2) := by decide +kernel
theorem dX8_reckons_154 : decode cX8_reckons 154 = .ok (.ifCond .ne 22, 3) := by decide +kernel
theorem dX8_reckons_157 : decode cX8_reckons 157 = .ok (.aload_n 0, 1) := by decide +kernel
theorem dX8_reckons_158 : decode cX8_reckons 158 = .ok (.getfield 41, 3) := by decide +kernel
theorem dX8_reckons_161 : decode cX8_reckons 161 = .ok (.iload_n 3, 1) := by decide +kernel
theorem dX8_reckons_162 : decode cX8_reckons 162 = .ok (.iaload, 1) := by decide +kernel
theorem dX8_reckons_163 : decode cX8_reckons 163 = .ok (.iconst 3, 1) := by decide +kernel
theorem dX8_reckons_164 : decode cX8_reckons 164 = .ok (.if_icmp .ne 12, 3) := by decide +kernel
theorem dX8_reckons_167 : decode cX8_reckons 167 = .ok (.iload 5, 2) := by decide +kernel
theorem dX8_reckons_169 : decode cX8_reckons 169 = .ok (.ifCond .le 7, 3) := by decide +kernel
theorem dX8_reckons_172 : decode cX8_reckons 172 = .ok (.iconst 1, 1) := by decide +kernel
theorem dX8_reckons_173 : decode cX8_reckons 173 = .ok (.goto 4, 3) := by decide +kernel
theorem dX8_reckons_176 : decode cX8_reckons 176 = .ok (.iconst 0, 1) := by decide +kernel
theorem dX8_reckons_177 : decode cX8_reckons 177 = .ok (.putfield 212, 3) := by decide +kernel
theorem dX8_reckons_180 : decode cX8_reckons 180 = .ok (.iinc 3 1, 3) := by decide +kernel
theorem dX8_reckons_183 : decode cX8_reckons 183 = .ok (.goto (-171), 3) := by decide +kernel
theorem dX8_reckons_186 : decode cX8_reckons 186 = .ok (.aload_n 0, 1) := by decide +kernel
theorem dX8_reckons_187 : decode cX8_reckons 187 = .ok (.getfield 187, 3) := by decide +kernel
theorem dX8_reckons_190 : decode cX8_reckons 190 = .ok (.iload_n 2, 1) := by decide +kernel
theorem dX8_reckons_191 : decode cX8_reckons 191 = .ok (.isub, 1) := by decide +kernel
theorem dX8_reckons_192 : decode cX8_reckons 192 = .ok (.ireturn, 1) := by decide +kernel
theorem dX8_goes_0 : decode cX8_goes 0 = .ok (.aload_n 0, 1) := by decide +kernel
theorem dX8_goes_1 : decode cX8_goes 1 = .ok (.iload_n 1, 1) := by decide +kernel
theorem dX8_goes_2 : decode cX8_goes 2 = .ok (.invokevirtual 222, 3) := by decide +kernel
theorem dX8_goes_5 : decode cX8_goes 5 = .ok (.istore_n 2, 1) := by decide +kernel
theorem dX8_goes_6 : decode cX8_goes 6 = .ok (.aload_n 0, 1) := by decide +kernel
theorem dX8_goes_7 : decode cX8_goes 7 = .ok (.dup, 1) := by decide +kernel
theorem dX8_goes_8 : decode cX8_goes 8 = .ok (.getfield 187, 3) := by decide +kernel
theorem dX8_goes_11 : decode cX8_goes 11 = .ok (.iload_n 2, 1) := by decide +kernel
theorem dX8_goes_12 : decode cX8_goes 12 = .ok (.isub, 1) := by decide +kernel
theorem dX8_goes_13 : decode cX8_goes 13 = .ok (.putfield 187, 3) := by decide +kernel
theorem dX8_goes_16 : decode cX8_goes 16 = .ok (.aload_n 0, 1) := by decide +kernel
theorem dX8_goes_17 : decode cX8_goes 17 = .ok (.dup, 1) := by decide +kernel
theorem dX8_goes_18 : decode cX8_goes 18 = .ok (.getfield 203, 3) := by decide +kernel
theorem dX8_goes_21 : decode cX8_goes 21 = .ok (.iload_n 1, 1) := by decide +kernel
theorem dX8_goes_22 : decode cX8_goes 22 = .ok (.iadd, 1) := by decide +kernel
theorem dX8_goes_23 : decode cX8_goes 23 = .ok (.putfield 203, 3) := by decide +kernel
theorem dX8_goes_26 : decode cX8_goes 26 = .ok (.aload_n 0, 1) := by decide +kernel
theorem dX8_goes_27 : decode cX8_goes 27 = .ok (.getfield 187, 3) := by decide +kernel
theorem dX8_goes_30 : decode cX8_goes 30 = .ok (.ifCond .ne 7, 3) := by decide +kernel
theorem dX8_goes_33 : decode cX8_goes 33 = .ok (.iconst 1, 1) := by decide +kernel
theorem dX8_goes_34 : decode cX8_goes 34 = .ok (.goto 37, 3) := by decide +kernel
theorem dX8_goes_37 : decode cX8_goes 37 = .ok (.aload_n 0, 1) := by decide +kernel
theorem dX8_goes_38 : decode cX8_goes 38 = .ok (.getfield 212, 3) := by decide +kernel
theorem dX8_goes_41 : decode cX8_goes 41 = .ok (.ifCond .eq 7, 3) := by decide +kernel
theorem dX8_goes_44 : decode cX8_goes 44 = .ok (.iconst 2, 1) := by decide +kernel
theorem dX8_goes_45 : decode cX8_goes 45 = .ok (.goto 26, 3) := by decide +kernel
theorem dX8_goes_48 : decode cX8_goes 48 = .ok (.iload_n 2, 1) := by decide +kernel
theorem dX8_goes_49 : decode cX8_goes 49 = .ok (.ifCond .ne 7, 3) := by decide +kernel
theorem dX8_goes_52 : decode cX8_goes 52 = .ok (.iconst 3, 1) := by decide +kernel
theorem dX8_goes_53 : decode cX8_goes 53 = .ok (.goto 18, 3) := by decide +kernel
theorem dX8_goes_56 : decode cX8_goes 56 = .ok (.aload_n 0, 1) := by decide +kernel
theorem dX8_goes_57 : decode cX8_goes 57 = .ok (.getfield 203, 3) := by decide +kernel
theorem dX8_goes_60 : decode cX8_goes 60 = .ok (.sipush 9999, 3) := by decide +kernel
theorem dX8_goes_63 : decode cX8_goes 63 = .ok (.if_icmp .lt 7, 3) := by decide +kernel
theorem dX8_goes_66 : decode cX8_goes 66 = .ok (.iconst 4, 1) := by decide +kernel
theorem dX8_goes_67 : decode cX8_goes 67 = .ok (.goto 4, 3) := by decide +kernel
theorem dX8_goes_70 : decode cX8_goes 70 = .ok (.iconst 0, 1) := by decide +kernel
theorem dX8_goes_71 : decode cX8_goes 71 = .ok (.ireturn, 1) := by decide +kernel
theorem dX8_lastsOn_0 : decode cX8_lastsOn 0 = .ok (.aload_n 0, 1) := by decide +kernel
theorem dX8_lastsOn_1 : decode cX8_lastsOn 1 = .ok (.iconst 0, 1) := by decide +kernel
theorem dX8_lastsOn_2 : decode cX8_lastsOn 2 = .ok (.putfield 225, 3) := by decide +kernel
theorem dX8_lastsOn_5 : decode cX8_lastsOn 5 = .ok (.aload_n 0, 1) := by decide +kernel
theorem dX8_lastsOn_6 : decode cX8_lastsOn 6 = .ok (.getfield 225, 3) := by decide +kernel
theorem dX8_lastsOn_9 : decode cX8_lastsOn 9 = .ok (.ifCond .ne 15, 3) := by decide +kernel
theorem dX8_lastsOn_12 : decode cX8_lastsOn 12 = .ok (.aload_n 0, 1) := by decide +kernel
theorem dX8_lastsOn_13 : decode cX8_lastsOn 13 = .ok (.aload_n 0, 1) := by decide +kernel
theorem dX8_lastsOn_14 : decode cX8_lastsOn 14 = .ok (.iload_n 1, 1) := by decide +kernel
theorem dX8_lastsOn_15 : decode cX8_lastsOn 15 = .ok (.invokevirtual 228, 3) := by decide +kernel
theorem dX8_lastsOn_18 : decode cX8_lastsOn 18 = .ok (.putfield 225, 3) := by decide +kernel
theorem dX8_lastsOn_21 : decode cX8_lastsOn 21 = .ok (.goto (-16), 3) := by decide +kernel
theorem dX8_lastsOn_24 : decode cX8_lastsOn 24 = .ok (.aload_n 0, 1) := by decide +kernel
theorem dX8_lastsOn_25 : decode cX8_lastsOn 25 = .ok (.getfield 203, 3) := by decide +kernel
theorem dX8_lastsOn_28 : decode cX8_lastsOn 28 = .ok (.ireturn, 1) := by decide +kernel
theorem dX8_all_0 : decode cX8_all 0 = .ok (.iconst 1, 1) := by decide +kernel
theorem dX8_all_1 : decode cX8_all 1 = .ok (.aload_n 0, 1) := by decide +kernel
theorem dX8_all_2 : decode cX8_all 2 = .ok (.getfield 155, 3) := by decide +kernel
theorem dX8_all_5 : decode cX8_all 5 = .ok (.ishl, 1) := by decide +kernel
theorem dX8_all_6 : decode cX8_all 6 = .ok (.iconst 1, 1) := by decide +kernel
theorem dX8_all_7 : decode cX8_all 7 = .ok (.isub, 1) := by decide +kernel
theorem dX8_all_8 : decode cX8_all 8 = .ok (.ireturn, 1) := by decide +kernel
theorem dX8_lastsOf_0 : decode cX8_lastsOf 0 = .ok (.aload_n 0, 1) := by decide +kernel
theorem dX8_lastsOf_1 : decode cX8_lastsOf 1 = .ok (.iload_n 1, 1) := by decide +kernel
theorem dX8_lastsOf_2 : decode cX8_lastsOf 2 = .ok (.iload_n 2, 1) := by decide +kernel
theorem dX8_lastsOf_3 : decode cX8_lastsOf 3 = .ok (.iload_n 3, 1) := by decide +kernel
theorem dX8_lastsOf_4 : decode cX8_lastsOf 4 = .ok (.aload_n 0, 1) := by decide +kernel
theorem dX8_lastsOf_5 : decode cX8_lastsOf 5 = .ok (.invokevirtual 231, 3) := by decide +kernel
theorem dX8_lastsOf_8 : decode cX8_lastsOf 8 = .ok (.invokevirtual 234, 3) := by decide +kernel
theorem dX8_lastsOf_11 : decode cX8_lastsOf 11 = .ok (.aload_n 0, 1) := by decide +kernel
theorem dX8_lastsOf_12 : decode cX8_lastsOf 12 = .ok (.iconst 1, 1) := by decide +kernel
theorem dX8_lastsOf_13 : decode cX8_lastsOf 13 = .ok (.invokevirtual 238, 3) := by decide +kernel
theorem dX8_lastsOf_16 : decode cX8_lastsOf 16 = .ok (.ireturn, 1) := by decide +kernel
theorem dX8_toneAt_0 : decode cX8_toneAt 0 = .ok (.aload_n 0, 1) := by decide +kernel
theorem dX8_toneAt_1 : decode cX8_toneAt 1 = .ok (.iload_n 1, 1) := by decide +kernel
theorem dX8_toneAt_2 : decode cX8_toneAt 2 = .ok (.invokevirtual 129, 3) := by decide +kernel
theorem dX8_toneAt_5 : decode cX8_toneAt 5 = .ok (.ifCond .ne 9, 3) := by decide +kernel
theorem dX8_toneAt_8 : decode cX8_toneAt 8 = .ok (.aload_n 0, 1) := by decide +kernel
theorem dX8_toneAt_9 : decode cX8_toneAt 9 = .ok (.iconst (-1), 1) := by decide +kernel
theorem dX8_toneAt_10 : decode cX8_toneAt 10 = .ok (.invokevirtual 93, 3) := by decide +kernel
theorem dX8_toneAt_13 : decode cX8_toneAt 13 = .ok (.ireturn, 1) := by decide +kernel
theorem dX8_toneAt_14 : decode cX8_toneAt 14 = .ok (.iload_n 2, 1) := by decide +kernel
theorem dX8_toneAt_15 : decode cX8_toneAt 15 = .ok (.iconst 0, 1) := by decide +kernel
theorem dX8_toneAt_16 : decode cX8_toneAt 16 = .ok (.sipush 9000, 3) := by decide +kernel
theorem dX8_toneAt_19 : decode cX8_toneAt 19 = .ok (.invokestatic 86, 3) := by decide +kernel
theorem dX8_toneAt_22 : decode cX8_toneAt 22 = .ok (.istore_n 3, 1) := by decide +kernel
theorem dX8_toneAt_23 : decode cX8_toneAt 23 = .ok (.iload_n 3, 1) := by decide +kernel
theorem dX8_toneAt_24 : decode cX8_toneAt 24 = .ok (.ifCond .eq 11, 3) := by decide +kernel
theorem dX8_toneAt_27 : decode cX8_toneAt 27 = .ok (.aload_n 0, 1) := by decide +kernel
theorem dX8_toneAt_28 : decode cX8_toneAt 28 = .ok (.iload_n 3, 1) := by decide +kernel
theorem dX8_toneAt_29 : decode cX8_toneAt 29 = .ok (.invokevirtual 93, 3) := by decide +kernel
theorem dX8_toneAt_32 : decode cX8_toneAt 32 = .ok (.goto 9, 3) := by decide +kernel
theorem dX8_toneAt_35 : decode cX8_toneAt 35 = .ok (.aload_n 0, 1) := by decide +kernel
theorem dX8_toneAt_36 : decode cX8_toneAt 36 = .ok (.iload_n 1, 1) := by decide +kernel
theorem dX8_toneAt_37 : decode cX8_toneAt 37 = .ok (.iload_n 2, 1) := by decide +kernel
theorem dX8_toneAt_38 : decode cX8_toneAt 38 = .ok (.invokevirtual 190, 3) := by decide +kernel
theorem dX8_toneAt_41 : decode cX8_toneAt 41 = .ok (.ireturn, 1) := by decide +kernel
theorem dX8_takes_0 : decode cX8_takes 0 = .ok (.aload_n 0, 1) := by decide +kernel
theorem dX8_takes_1 : decode cX8_takes 1 = .ok (.iload_n 1, 1) := by decide +kernel
theorem dX8_takes_2 : decode cX8_takes 2 = .ok (.invokevirtual 171, 3) := by decide +kernel
theorem dX8_takes_5 : decode cX8_takes 5 = .ok (.ifCond .eq 19, 3) := by decide +kernel
theorem dX8_takes_8 : decode cX8_takes 8 = .ok (.aload_n 0, 1) := by decide +kernel
theorem dX8_takes_9 : decode cX8_takes 9 = .ok (.iload_n 2, 1) := by decide +kernel
theorem dX8_takes_10 : decode cX8_takes 10 = .ok (.invokevirtual 129, 3) := by decide +kernel
theorem dX8_takes_13 : decode cX8_takes 13 = .ok (.ifCond .eq 11, 3) := by decide +kernel
theorem dX8_takes_16 : decode cX8_takes 16 = .ok (.iload 4, 2) := by decide +kernel
theorem dX8_takes_18 : decode cX8_takes 18 = .ok (.invokestatic 174, 3) := by decide +kernel
theorem dX8_takes_21 : decode cX8_takes 21 = .ok (.ifCond .ne 9, 3) := by decide +kernel
theorem dX8_takes_24 : decode cX8_takes 24 = .ok (.aload_n 0, 1) := by decide +kernel
theorem dX8_takes_25 : decode cX8_takes 25 = .ok (.iconst (-1), 1) := by decide +kernel
theorem dX8_takes_26 : decode cX8_takes 26 = .ok (.invokevirtual 93, 3) := by decide +kernel
theorem dX8_takes_29 : decode cX8_takes 29 = .ok (.ireturn, 1) := by decide +kernel
theorem dX8_takes_30 : decode cX8_takes 30 = .ok (.iload_n 3, 1) := by decide +kernel
theorem dX8_takes_31 : decode cX8_takes 31 = .ok (.sipush 9000, 3) := by decide +kernel
theorem dX8_takes_34 : decode cX8_takes 34 = .ok (.iload 5, 2) := by decide +kernel
theorem dX8_takes_36 : decode cX8_takes 36 = .ok (.sipush 9999, 3) := by decide +kernel
theorem dX8_takes_39 : decode cX8_takes 39 = .ok (.invokestatic 164, 3) := by decide +kernel
theorem dX8_takes_42 : decode cX8_takes 42 = .ok (.istore 6, 2) := by decide +kernel
theorem dX8_takes_44 : decode cX8_takes 44 = .ok (.iload 6, 2) := by decide +kernel
theorem dX8_takes_46 : decode cX8_takes 46 = .ok (.ifCond .eq 10, 3) := by decide +kernel
theorem dX8_takes_49 : decode cX8_takes 49 = .ok (.aload_n 0, 1) := by decide +kernel
theorem dX8_takes_50 : decode cX8_takes 50 = .ok (.iload 6, 2) := by decide +kernel
theorem dX8_takes_52 : decode cX8_takes 52 = .ok (.invokevirtual 93, 3) := by decide +kernel
theorem dX8_takes_55 : decode cX8_takes 55 = .ok (.ireturn, 1) := by decide +kernel
theorem dX8_takes_56 : decode cX8_takes 56 = .ok (.aload_n 0, 1) := by decide +kernel
theorem dX8_takes_57 : decode cX8_takes 57 = .ok (.iload_n 2, 1) := by decide +kernel
theorem dX8_takes_58 : decode cX8_takes 58 = .ok (.iload_n 3, 1) := by decide +kernel
theorem dX8_takes_59 : decode cX8_takes 59 = .ok (.iload 4, 2) := by decide +kernel
theorem dX8_takes_61 : decode cX8_takes 61 = .ok (.iconst 0, 1) := by decide +kernel
theorem dX8_takes_62 : decode cX8_takes 62 = .ok (.invokevirtual 234, 3) := by decide +kernel
theorem dX8_takes_65 : decode cX8_takes 65 = .ok (.aload_n 0, 1) := by decide +kernel
theorem dX8_takes_66 : decode cX8_takes 66 = .ok (.iload 5, 2) := by decide +kernel
theorem dX8_takes_68 : decode cX8_takes 68 = .ok (.putfield 203, 3) := by decide +kernel
theorem dX8_takes_71 : decode cX8_takes 71 = .ok (.aload_n 0, 1) := by decide +kernel
theorem dX8_takes_72 : decode cX8_takes 72 = .ok (.iload_n 1, 1) := by decide +kernel
theorem dX8_takes_73 : decode cX8_takes 73 = .ok (.aload_n 0, 1) := by decide +kernel
theorem dX8_takes_74 : decode cX8_takes 74 = .ok (.getfield 41, 3) := by decide +kernel
theorem dX8_takes_77 : decode cX8_takes 77 = .ok (.iload_n 1, 1) := by decide +kernel
theorem dX8_takes_78 : decode cX8_takes 78 = .ok (.iaload, 1) := by decide +kernel
theorem dX8_takes_79 : decode cX8_takes 79 = .ok (.aload_n 0, 1) := by decide +kernel
theorem dX8_takes_80 : decode cX8_takes 80 = .ok (.getfield 44, 3) := by decide +kernel
theorem dX8_takes_83 : decode cX8_takes 83 = .ok (.iload_n 1, 1) := by decide +kernel
theorem dX8_takes_84 : decode cX8_takes 84 = .ok (.iaload, 1) := by decide +kernel
theorem dX8_takes_85 : decode cX8_takes 85 = .ok (.aload_n 0, 1) := by decide +kernel
theorem dX8_takes_86 : decode cX8_takes 86 = .ok (.getfield 47, 3) := by decide +kernel
theorem dX8_takes_89 : decode cX8_takes 89 = .ok (.iload_n 1, 1) := by decide +kernel
theorem dX8_takes_90 : decode cX8_takes 90 = .ok (.iaload, 1) := by decide +kernel
theorem dX8_takes_91 : decode cX8_takes 91 = .ok (.invokevirtual 219, 3) := by decide +kernel
theorem dX8_takes_94 : decode cX8_takes 94 = .ok (.ireturn, 1) := by decide +kernel
theorem dX8_keepsTenth_0 : decode cX8_keepsTenth 0 = .ok (.aload_n 0, 1) := by decide +kernel
theorem dX8_keepsTenth_1 : decode cX8_keepsTenth 1 = .ok (.getfield 241, 3) := by decide +kernel
theorem dX8_keepsTenth_4 : decode cX8_keepsTenth 4 = .ok (.bipush 10, 2) := by decide +kernel
theorem dX8_keepsTenth_6 : decode cX8_keepsTenth 6 = .ok (.irem, 1) := by decide +kernel
theorem dX8_keepsTenth_7 : decode cX8_keepsTenth 7 = .ok (.ifCond .ne 12, 3) := by decide +kernel
theorem dX8_keepsTenth_10 : decode cX8_keepsTenth 10 = .ok (.aload_n 0, 1) := by decide +kernel
theorem dX8_keepsTenth_11 : decode cX8_keepsTenth 11 = .ok (.getfield 244, 3) := by decide +kernel
theorem dX8_keepsTenth_14 : decode cX8_keepsTenth 14 = .ok (.bipush 100, 2) := by decide +kernel
theorem dX8_keepsTenth_16 : decode cX8_keepsTenth 16 = .ok (.if_icmp .ne 4, 3) := by decide +kernel
theorem dX8_keepsTenth_19 : decode cX8_keepsTenth 19 = .ok (.return_, 1) := by decide +kernel
theorem dX8_keepsTenth_20 : decode cX8_keepsTenth 20 = .ok (.aload_n 0, 1) := by decide +kernel
theorem dX8_keepsTenth_21 : decode cX8_keepsTenth 21 = .ok (.getfield 68, 3) := by decide +kernel
theorem dX8_keepsTenth_24 : decode cX8_keepsTenth 24 = .ok (.aload_n 0, 1) := by decide +kernel
theorem dX8_keepsTenth_25 : decode cX8_keepsTenth 25 = .ok (.getfield 244, 3) := by decide +kernel
theorem dX8_keepsTenth_28 : decode cX8_keepsTenth 28 = .ok (.aload_n 0, 1) := by decide +kernel
theorem dX8_keepsTenth_29 : decode cX8_keepsTenth 29 = .ok (.getfield 247, 3) := by decide +kernel
theorem dX8_keepsTenth_32 : decode cX8_keepsTenth 32 = .ok (.iastore, 1) := by decide +kernel
theorem dX8_keepsTenth_33 : decode cX8_keepsTenth 33 = .ok (.aload_n 0, 1) := by decide +kernel
theorem dX8_keepsTenth_34 : decode cX8_keepsTenth 34 = .ok (.getfield 71, 3) := by decide +kernel
theorem dX8_keepsTenth_37 : decode cX8_keepsTenth 37 = .ok (.aload_n 0, 1) := by decide +kernel
theorem dX8_keepsTenth_38 : decode cX8_keepsTenth 38 = .ok (.getfield 244, 3) := by decide +kernel
theorem dX8_keepsTenth_41 : decode cX8_keepsTenth 41 = .ok (.aload_n 0, 1) := by decide +kernel
theorem dX8_keepsTenth_42 : decode cX8_keepsTenth 42 = .ok (.aload_n 0, 1) := by decide +kernel
theorem dX8_keepsTenth_43 : decode cX8_keepsTenth 43 = .ok (.getfield 250, 3) := by decide +kernel
theorem dX8_keepsTenth_46 : decode cX8_keepsTenth 46 = .ok (.aload_n 0, 1) := by decide +kernel
theorem dX8_keepsTenth_47 : decode cX8_keepsTenth 47 = .ok (.getfield 247, 3) := by decide +kernel
theorem dX8_keepsTenth_50 : decode cX8_keepsTenth 50 = .ok (.invokevirtual 190, 3) := by decide +kernel
theorem dX8_keepsTenth_53 : decode cX8_keepsTenth 53 = .ok (.iastore, 1) := by decide +kernel
theorem dX8_keepsTenth_54 : decode cX8_keepsTenth 54 = .ok (.aload_n 0, 1) := by decide +kernel
theorem dX8_keepsTenth_55 : decode cX8_keepsTenth 55 = .ok (.dup, 1) := by decide +kernel
theorem dX8_keepsTenth_56 : decode cX8_keepsTenth 56 = .ok (.getfield 244, 3) := by decide +kernel
theorem dX8_keepsTenth_59 : decode cX8_keepsTenth 59 = .ok (.iconst 1, 1) := by decide +kernel
theorem dX8_keepsTenth_60 : decode cX8_keepsTenth 60 = .ok (.iadd, 1) := by decide +kernel
theorem dX8_keepsTenth_61 : decode cX8_keepsTenth 61 = .ok (.putfield 244, 3) := by decide +kernel
theorem dX8_keepsTenth_64 : decode cX8_keepsTenth 64 = .ok (.return_, 1) := by decide +kernel
theorem dX8_spin_0 : decode cX8_spin 0 = .ok (.aload_n 0, 1) := by decide +kernel
theorem dX8_spin_1 : decode cX8_spin 1 = .ok (.iload_n 1, 1) := by decide +kernel
theorem dX8_spin_2 : decode cX8_spin 2 = .ok (.invokevirtual 129, 3) := by decide +kernel
theorem dX8_spin_5 : decode cX8_spin 5 = .ok (.ifCond .eq 10, 3) := by decide +kernel
theorem dX8_spin_8 : decode cX8_spin 8 = .ok (.iload_n 3, 1) := by decide +kernel
theorem dX8_spin_9 : decode cX8_spin 9 = .ok (.invokestatic 174, 3) := by decide +kernel
theorem dX8_spin_12 : decode cX8_spin 12 = .ok (.ifCond .ne 9, 3) := by decide +kernel
theorem dX8_spin_15 : decode cX8_spin 15 = .ok (.aload_n 0, 1) := by decide +kernel
theorem dX8_spin_16 : decode cX8_spin 16 = .ok (.iconst (-1), 1) := by decide +kernel
theorem dX8_spin_17 : decode cX8_spin 17 = .ok (.invokevirtual 93, 3) := by decide +kernel
theorem dX8_spin_20 : decode cX8_spin 20 = .ok (.ireturn, 1) := by decide +kernel
theorem dX8_spin_21 : decode cX8_spin 21 = .ok (.iload_n 2, 1) := by decide +kernel
theorem dX8_spin_22 : decode cX8_spin 22 = .ok (.iconst 0, 1) := by decide +kernel
theorem dX8_spin_23 : decode cX8_spin 23 = .ok (.sipush 9000, 3) := by decide +kernel
theorem dX8_spin_26 : decode cX8_spin 26 = .ok (.invokestatic 86, 3) := by decide +kernel
theorem dX8_spin_29 : decode cX8_spin 29 = .ok (.istore 4, 2) := by decide +kernel
theorem dX8_spin_31 : decode cX8_spin 31 = .ok (.iload 4, 2) := by decide +kernel
theorem dX8_spin_33 : decode cX8_spin 33 = .ok (.ifCond .eq 10, 3) := by decide +kernel
theorem dX8_spin_36 : decode cX8_spin 36 = .ok (.aload_n 0, 1) := by decide +kernel
theorem dX8_spin_37 : decode cX8_spin 37 = .ok (.iload 4, 2) := by decide +kernel
theorem dX8_spin_39 : decode cX8_spin 39 = .ok (.invokevirtual 93, 3) := by decide +kernel
theorem dX8_spin_42 : decode cX8_spin 42 = .ok (.ireturn, 1) := by decide +kernel
theorem dX8_spin_43 : decode cX8_spin 43 = .ok (.aload_n 0, 1) := by decide +kernel
theorem dX8_spin_44 : decode cX8_spin 44 = .ok (.iconst 1, 1) := by decide +kernel
theorem dX8_spin_45 : decode cX8_spin 45 = .ok (.putfield 253, 3) := by decide +kernel
theorem dX8_spin_48 : decode cX8_spin 48 = .ok (.aload_n 0, 1) := by decide +kernel
theorem dX8_spin_49 : decode cX8_spin 49 = .ok (.iload_n 1, 1) := by decide +kernel
theorem dX8_spin_50 : decode cX8_spin 50 = .ok (.putfield 250, 3) := by decide +kernel
theorem dX8_spin_53 : decode cX8_spin 53 = .ok (.aload_n 0, 1) := by decide +kernel
theorem dX8_spin_54 : decode cX8_spin 54 = .ok (.iload_n 2, 1) := by decide +kernel
theorem dX8_spin_55 : decode cX8_spin 55 = .ok (.putfield 247, 3) := by decide +kernel
theorem dX8_spin_58 : decode cX8_spin 58 = .ok (.aload_n 0, 1) := by decide +kernel
theorem dX8_spin_59 : decode cX8_spin 59 = .ok (.iload_n 3, 1) := by decide +kernel
theorem dX8_spin_60 : decode cX8_spin 60 = .ok (.putfield 256, 3) := by decide +kernel
theorem dX8_spin_63 : decode cX8_spin 63 = .ok (.aload_n 0, 1) := by decide +kernel
theorem dX8_spin_64 : decode cX8_spin 64 = .ok (.iload_n 2, 1) := by decide +kernel
theorem dX8_spin_65 : decode cX8_spin 65 = .ok (.putfield 259, 3) := by decide +kernel
theorem dX8_spin_68 : decode cX8_spin 68 = .ok (.aload_n 0, 1) := by decide +kernel
theorem dX8_spin_69 : decode cX8_spin 69 = .ok (.iconst 0, 1) := by decide +kernel
theorem dX8_spin_70 : decode cX8_spin 70 = .ok (.putfield 241, 3) := by decide +kernel
theorem dX8_spin_73 : decode cX8_spin 73 = .ok (.aload_n 0, 1) := by decide +kernel
theorem dX8_spin_74 : decode cX8_spin 74 = .ok (.iconst 0, 1) := by decide +kernel
theorem dX8_spin_75 : decode cX8_spin 75 = .ok (.putfield 262, 3) := by decide +kernel
theorem dX8_spin_78 : decode cX8_spin 78 = .ok (.aload_n 0, 1) := by decide +kernel
theorem dX8_spin_79 : decode cX8_spin 79 = .ok (.lconst 0, 1) := by decide +kernel
theorem dX8_spin_80 : decode cX8_spin 80 = .ok (.putfield 265, 3) := by decide +kernel
theorem dX8_spin_83 : decode cX8_spin 83 = .ok (.aload_n 0, 1) := by decide +kernel
theorem dX8_spin_84 : decode cX8_spin 84 = .ok (.iconst 0, 1) := by decide +kernel
theorem dX8_spin_85 : decode cX8_spin 85 = .ok (.putfield 244, 3) := by decide +kernel
theorem dX8_spin_88 : decode cX8_spin 88 = .ok (.iconst 0, 1) := by decide +kernel
theorem dX8_spin_89 : decode cX8_spin 89 = .ok (.istore 5, 2) := by decide +kernel
theorem dX8_spin_91 : decode cX8_spin 91 = .ok (.iload 5, 2) := by decide +kernel
theorem dX8_spin_93 : decode cX8_spin 93 = .ok (.aload_n 0, 1) := by decide +kernel
theorem dX8_spin_94 : decode cX8_spin 94 = .ok (.getfield 155, 3) := by decide +kernel
theorem dX8_spin_97 : decode cX8_spin 97 = .ok (.if_icmp .ge 17, 3) := by decide +kernel
theorem dX8_spin_100 : decode cX8_spin 100 = .ok (.aload_n 0, 1) := by decide +kernel
theorem dX8_spin_101 : decode cX8_spin 101 = .ok (.getfield 50, 3) := by decide +kernel
theorem dX8_spin_104 : decode cX8_spin 104 = .ok (.iload 5, 2) := by decide +kernel
theorem dX8_spin_106 : decode cX8_spin 106 = .ok (.iconst 0, 1) := by decide +kernel
theorem dX8_spin_107 : decode cX8_spin 107 = .ok (.iastore, 1) := by decide +kernel
theorem dX8_spin_108 : decode cX8_spin 108 = .ok (.iinc 5 1, 3) := by decide +kernel
theorem dX8_spin_111 : decode cX8_spin 111 = .ok (.goto (-20), 3) := by decide +kernel
theorem dX8_spin_114 : decode cX8_spin 114 = .ok (.aload_n 0, 1) := by decide +kernel
theorem dX8_spin_115 : decode cX8_spin 115 = .ok (.invokevirtual 269, 3) := by decide +kernel
theorem dX8_spin_118 : decode cX8_spin 118 = .ok (.aload_n 0, 1) := by decide +kernel
theorem dX8_spin_119 : decode cX8_spin 119 = .ok (.iload_n 1, 1) := by decide +kernel
theorem dX8_spin_120 : decode cX8_spin 120 = .ok (.iload_n 2, 1) := by decide +kernel
theorem dX8_spin_121 : decode cX8_spin 121 = .ok (.invokevirtual 190, 3) := by decide +kernel
theorem dX8_spin_124 : decode cX8_spin 124 = .ok (.ireturn, 1) := by decide +kernel
theorem dX8_tick_0 : decode cX8_tick 0 = .ok (.aload_n 0, 1) := by decide +kernel
theorem dX8_tick_1 : decode cX8_tick 1 = .ok (.getfield 253, 3) := by decide +kernel
theorem dX8_tick_4 : decode cX8_tick 4 = .ok (.ifCond .ne 10, 3) := by decide +kernel
theorem dX8_tick_7 : decode cX8_tick 7 = .ok (.aload_n 0, 1) := by decide +kernel
theorem dX8_tick_8 : decode cX8_tick 8 = .ok (.bipush (-3), 2) := by decide +kernel
theorem dX8_tick_10 : decode cX8_tick 10 = .ok (.invokevirtual 93, 3) := by decide +kernel
theorem dX8_tick_13 : decode cX8_tick 13 = .ok (.ireturn, 1) := by decide +kernel
theorem dX8_tick_14 : decode cX8_tick 14 = .ok (.iload_n 1, 1) := by decide +kernel
theorem dX8_tick_15 : decode cX8_tick 15 = .ok (.iconst 1, 1) := by decide +kernel
theorem dX8_tick_16 : decode cX8_tick 16 = .ok (.sipush 999, 3) := by decide +kernel
theorem dX8_tick_19 : decode cX8_tick 19 = .ok (.invokestatic 86, 3) := by decide +kernel
theorem dX8_tick_22 : decode cX8_tick 22 = .ok (.istore_n 2, 1) := by decide +kernel
theorem dX8_tick_23 : decode cX8_tick 23 = .ok (.iload_n 2, 1) := by decide +kernel
theorem dX8_tick_24 : decode cX8_tick 24 = .ok (.ifCond .eq 9, 3) := by decide +kernel
theorem dX8_tick_27 : decode cX8_tick 27 = .ok (.aload_n 0, 1) := by decide +kernel
theorem dX8_tick_28 : decode cX8_tick 28 = .ok (.iload_n 2, 1) := by decide +kernel
theorem dX8_tick_29 : decode cX8_tick 29 = .ok (.invokevirtual 93, 3) := by decide +kernel
