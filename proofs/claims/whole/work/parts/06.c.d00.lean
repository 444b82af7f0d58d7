theorem dX0_init_0 : decode cX0_init 0 = .ok (.aload_n 0, 1) := by decide +kernel
theorem dX0_init_1 : decode cX0_init 1 = .ok (.invokespecial 3, 3) := by decide +kernel
theorem dX0_init_4 : decode cX0_init 4 = .ok (.aload_n 0, 1) := by decide +kernel
theorem dX0_init_5 : decode cX0_init 5 = .ok (.bipush 6, 2) := by decide +kernel
theorem dX0_init_7 : decode cX0_init 7 = .ok (.anewarray 9, 3) := by decide +kernel
theorem dX0_init_10 : decode cX0_init 10 = .ok (.putfield 11, 3) := by decide +kernel
theorem dX0_init_13 : decode cX0_init 13 = .ok (.aload_n 0, 1) := by decide +kernel
theorem dX0_init_14 : decode cX0_init 14 = .ok (.bipush 8, 2) := by decide +kernel
theorem dX0_init_16 : decode cX0_init 16 = .ok (.anewarray 17, 3) := by decide +kernel
theorem dX0_init_19 : decode cX0_init 19 = .ok (.putfield 19, 3) := by decide +kernel
theorem dX0_init_22 : decode cX0_init 22 = .ok (.aload_n 0, 1) := by decide +kernel
theorem dX0_init_23 : decode cX0_init 23 = .ok (.iconst 4, 1) := by decide +kernel
theorem dX0_init_24 : decode cX0_init 24 = .ok (.newarray .int, 2) := by decide +kernel
theorem dX0_init_26 : decode cX0_init 26 = .ok (.dup, 1) := by decide +kernel
theorem dX0_init_27 : decode cX0_init 27 = .ok (.iconst 0, 1) := by decide +kernel
theorem dX0_init_28 : decode cX0_init 28 = .ok (.bipush 9, 2) := by decide +kernel
theorem dX0_init_30 : decode cX0_init 30 = .ok (.iastore, 1) := by decide +kernel
theorem dX0_init_31 : decode cX0_init 31 = .ok (.dup, 1) := by decide +kernel
theorem dX0_init_32 : decode cX0_init 32 = .ok (.iconst 1, 1) := by decide +kernel
theorem dX0_init_33 : decode cX0_init 33 = .ok (.bipush 9, 2) := by decide +kernel
theorem dX0_init_35 : decode cX0_init 35 = .ok (.iastore, 1) := by decide +kernel
theorem dX0_init_36 : decode cX0_init 36 = .ok (.dup, 1) := by decide +kernel
theorem dX0_init_37 : decode cX0_init 37 = .ok (.iconst 2, 1) := by decide +kernel
theorem dX0_init_38 : decode cX0_init 38 = .ok (.bipush 9, 2) := by decide +kernel
theorem dX0_init_40 : decode cX0_init 40 = .ok (.iastore, 1) := by decide +kernel
theorem dX0_init_41 : decode cX0_init 41 = .ok (.dup, 1) := by decide +kernel
theorem dX0_init_42 : decode cX0_init 42 = .ok (.iconst 3, 1) := by decide +kernel
theorem dX0_init_43 : decode cX0_init 43 = .ok (.bipush 9, 2) := by decide +kernel
theorem dX0_init_45 : decode cX0_init 45 = .ok (.iastore, 1) := by decide +kernel
theorem dX0_init_46 : decode cX0_init 46 = .ok (.putfield 23, 3) := by decide +kernel
theorem dX0_init_49 : decode cX0_init 49 = .ok (.aload_n 0, 1) := by decide +kernel
theorem dX0_init_50 : decode cX0_init 50 = .ok (.iconst 4, 1) := by decide +kernel
theorem dX0_init_51 : decode cX0_init 51 = .ok (.newarray .int, 2) := by decide +kernel
theorem dX0_init_53 : decode cX0_init 53 = .ok (.putfield 27, 3) := by decide +kernel
theorem dX0_init_56 : decode cX0_init 56 = .ok (.aload_n 0, 1) := by decide +kernel
theorem dX0_init_57 : decode cX0_init 57 = .ok (.iconst 4, 1) := by decide +kernel
theorem dX0_init_58 : decode cX0_init 58 = .ok (.newarray .int, 2) := by decide +kernel
theorem dX0_init_60 : decode cX0_init 60 = .ok (.putfield 30, 3) := by decide +kernel
theorem dX0_init_63 : decode cX0_init 63 = .ok (.aload_n 0, 1) := by decide +kernel
theorem dX0_init_64 : decode cX0_init 64 = .ok (.iconst 4, 1) := by decide +kernel
theorem dX0_init_65 : decode cX0_init 65 = .ok (.newarray .int, 2) := by decide +kernel
theorem dX0_init_67 : decode cX0_init 67 = .ok (.putfield 33, 3) := by decide +kernel
theorem dX0_init_70 : decode cX0_init 70 = .ok (.aload_n 0, 1) := by decide +kernel
theorem dX0_init_71 : decode cX0_init 71 = .ok (.new 36, 3) := by decide +kernel
theorem dX0_init_74 : decode cX0_init 74 = .ok (.dup, 1) := by decide +kernel
theorem dX0_init_75 : decode cX0_init 75 = .ok (.invokespecial 38, 3) := by decide +kernel
theorem dX0_init_78 : decode cX0_init 78 = .ok (.putfield 39, 3) := by decide +kernel
theorem dX0_init_81 : decode cX0_init 81 = .ok (.aload_n 0, 1) := by decide +kernel
theorem dX0_init_82 : decode cX0_init 82 = .ok (.new 43, 3) := by decide +kernel
theorem dX0_init_85 : decode cX0_init 85 = .ok (.dup, 1) := by decide +kernel
theorem dX0_init_86 : decode cX0_init 86 = .ok (.invokespecial 45, 3) := by decide +kernel
theorem dX0_init_89 : decode cX0_init 89 = .ok (.putfield 46, 3) := by decide +kernel
theorem dX0_init_92 : decode cX0_init 92 = .ok (.aload_n 0, 1) := by decide +kernel
theorem dX0_init_93 : decode cX0_init 93 = .ok (.iconst 1, 1) := by decide +kernel
theorem dX0_init_94 : decode cX0_init 94 = .ok (.putfield 50, 3) := by decide +kernel
theorem dX0_init_97 : decode cX0_init 97 = .ok (.return_, 1) := by decide +kernel
theorem dX0_plateAt_0 : decode cX0_plateAt 0 = .ok (.iload_n 1, 1) := by decide +kernel
theorem dX0_plateAt_1 : decode cX0_plateAt 1 = .ok (.ifCond .lt 26, 3) := by decide +kernel
theorem dX0_plateAt_4 : decode cX0_plateAt 4 = .ok (.iload_n 1, 1) := by decide +kernel
theorem dX0_plateAt_5 : decode cX0_plateAt 5 = .ok (.aload_n 0, 1) := by decide +kernel
theorem dX0_plateAt_6 : decode cX0_plateAt 6 = .ok (.getfield 54, 3) := by decide +kernel
theorem dX0_plateAt_9 : decode cX0_plateAt 9 = .ok (.if_icmp .ge 18, 3) := by decide +kernel
theorem dX0_plateAt_12 : decode cX0_plateAt 12 = .ok (.iload_n 1, 1) := by decide +kernel
theorem dX0_plateAt_13 : decode cX0_plateAt 13 = .ok (.bipush 6, 2) := by decide +kernel
theorem dX0_plateAt_15 : decode cX0_plateAt 15 = .ok (.if_icmp .ge 12, 3) := by decide +kernel
theorem dX0_plateAt_18 : decode cX0_plateAt 18 = .ok (.aload_n 0, 1) := by decide +kernel
theorem dX0_plateAt_19 : decode cX0_plateAt 19 = .ok (.getfield 11, 3) := by decide +kernel
theorem dX0_plateAt_22 : decode cX0_plateAt 22 = .ok (.iload_n 1, 1) := by decide +kernel
theorem dX0_plateAt_23 : decode cX0_plateAt 23 = .ok (.aaload, 1) := by decide +kernel
theorem dX0_plateAt_24 : decode cX0_plateAt 24 = .ok (.goto 4, 3) := by decide +kernel
theorem dX0_plateAt_27 : decode cX0_plateAt 27 = .ok (.aconst_null, 1) := by decide +kernel
theorem dX0_plateAt_28 : decode cX0_plateAt 28 = .ok (.areturn, 1) := by decide +kernel
theorem dX0_lossAt_0 : decode cX0_lossAt 0 = .ok (.iload_n 1, 1) := by decide +kernel
theorem dX0_lossAt_1 : decode cX0_lossAt 1 = .ok (.ifCond .lt 26, 3) := by decide +kernel
theorem dX0_lossAt_4 : decode cX0_lossAt 4 = .ok (.iload_n 1, 1) := by decide +kernel
theorem dX0_lossAt_5 : decode cX0_lossAt 5 = .ok (.aload_n 0, 1) := by decide +kernel
theorem dX0_lossAt_6 : decode cX0_lossAt 6 = .ok (.getfield 58, 3) := by decide +kernel
theorem dX0_lossAt_9 : decode cX0_lossAt 9 = .ok (.if_icmp .ge 18, 3) := by decide +kernel
theorem dX0_lossAt_12 : decode cX0_lossAt 12 = .ok (.iload_n 1, 1) := by decide +kernel
theorem dX0_lossAt_13 : decode cX0_lossAt 13 = .ok (.bipush 8, 2) := by decide +kernel
theorem dX0_lossAt_15 : decode cX0_lossAt 15 = .ok (.if_icmp .ge 12, 3) := by decide +kernel
theorem dX0_lossAt_18 : decode cX0_lossAt 18 = .ok (.aload_n 0, 1) := by decide +kernel
theorem dX0_lossAt_19 : decode cX0_lossAt 19 = .ok (.getfield 19, 3) := by decide +kernel
theorem dX0_lossAt_22 : decode cX0_lossAt 22 = .ok (.iload_n 1, 1) := by decide +kernel
theorem dX0_lossAt_23 : decode cX0_lossAt 23 = .ok (.aaload, 1) := by decide +kernel
theorem dX0_lossAt_24 : decode cX0_lossAt 24 = .ok (.goto 4, 3) := by decide +kernel
theorem dX0_lossAt_27 : decode cX0_lossAt 27 = .ok (.aconst_null, 1) := by decide +kernel
theorem dX0_lossAt_28 : decode cX0_lossAt 28 = .ok (.areturn, 1) := by decide +kernel
theorem dX0_addPlate_0 : decode cX0_addPlate 0 = .ok (.aload_n 0, 1) := by decide +kernel
theorem dX0_addPlate_1 : decode cX0_addPlate 1 = .ok (.getfield 54, 3) := by decide +kernel
theorem dX0_addPlate_4 : decode cX0_addPlate 4 = .ok (.istore_n 2, 1) := by decide +kernel
theorem dX0_addPlate_5 : decode cX0_addPlate 5 = .ok (.iload_n 2, 1) := by decide +kernel
theorem dX0_addPlate_6 : decode cX0_addPlate 6 = .ok (.ifCond .lt 26, 3) := by decide +kernel
theorem dX0_addPlate_9 : decode cX0_addPlate 9 = .ok (.iload_n 2, 1) := by decide +kernel
theorem dX0_addPlate_10 : decode cX0_addPlate 10 = .ok (.bipush 6, 2) := by decide +kernel
theorem dX0_addPlate_12 : decode cX0_addPlate 12 = .ok (.if_icmp .ge 20, 3) := by decide +kernel
theorem dX0_addPlate_15 : decode cX0_addPlate 15 = .ok (.aload_n 0, 1) := by decide +kernel
theorem dX0_addPlate_16 : decode cX0_addPlate 16 = .ok (.getfield 11, 3) := by decide +kernel
theorem dX0_addPlate_19 : decode cX0_addPlate 19 = .ok (.iload_n 2, 1) := by decide +kernel
theorem dX0_addPlate_20 : decode cX0_addPlate 20 = .ok (.aload_n 1, 1) := by decide +kernel
theorem dX0_addPlate_21 : decode cX0_addPlate 21 = .ok (.aastore, 1) := by decide +kernel
theorem dX0_addPlate_22 : decode cX0_addPlate 22 = .ok (.aload_n 0, 1) := by decide +kernel
theorem dX0_addPlate_23 : decode cX0_addPlate 23 = .ok (.dup, 1) := by decide +kernel
theorem dX0_addPlate_24 : decode cX0_addPlate 24 = .ok (.getfield 54, 3) := by decide +kernel
theorem dX0_addPlate_27 : decode cX0_addPlate 27 = .ok (.iconst 1, 1) := by decide +kernel
theorem dX0_addPlate_28 : decode cX0_addPlate 28 = .ok (.iadd, 1) := by decide +kernel
theorem dX0_addPlate_29 : decode cX0_addPlate 29 = .ok (.putfield 54, 3) := by decide +kernel
theorem dX0_addPlate_32 : decode cX0_addPlate 32 = .ok (.iload_n 2, 1) := by decide +kernel
theorem dX0_addPlate_33 : decode cX0_addPlate 33 = .ok (.ireturn, 1) := by decide +kernel
theorem dX0_addLoss_0 : decode cX0_addLoss 0 = .ok (.aload_n 0, 1) := by decide +kernel
theorem dX0_addLoss_1 : decode cX0_addLoss 1 = .ok (.getfield 58, 3) := by decide +kernel
theorem dX0_addLoss_4 : decode cX0_addLoss 4 = .ok (.istore_n 2, 1) := by decide +kernel
theorem dX0_addLoss_5 : decode cX0_addLoss 5 = .ok (.iload_n 2, 1) := by decide +kernel
theorem dX0_addLoss_6 : decode cX0_addLoss 6 = .ok (.ifCond .lt 26, 3) := by decide +kernel
theorem dX0_addLoss_9 : decode cX0_addLoss 9 = .ok (.iload_n 2, 1) := by decide +kernel
theorem dX0_addLoss_10 : decode cX0_addLoss 10 = .ok (.bipush 8, 2) := by decide +kernel
theorem dX0_addLoss_12 : decode cX0_addLoss 12 = .ok (.if_icmp .ge 20, 3) := by decide +kernel
theorem dX0_addLoss_15 : decode cX0_addLoss 15 = .ok (.aload_n 0, 1) := by decide +kernel
theorem dX0_addLoss_16 : decode cX0_addLoss 16 = .ok (.getfield 19, 3) := by decide +kernel
theorem dX0_addLoss_19 : decode cX0_addLoss 19 = .ok (.iload_n 2, 1) := by decide +kernel
theorem dX0_addLoss_20 : decode cX0_addLoss 20 = .ok (.aload_n 1, 1) := by decide +kernel
theorem dX0_addLoss_21 : decode cX0_addLoss 21 = .ok (.aastore, 1) := by decide +kernel
theorem dX0_addLoss_22 : decode cX0_addLoss 22 = .ok (.aload_n 0, 1) := by decide +kernel
theorem dX0_addLoss_23 : decode cX0_addLoss 23 = .ok (.dup, 1) := by decide +kernel
theorem dX0_addLoss_24 : decode cX0_addLoss 24 = .ok (.getfield 58, 3) := by decide +kernel
theorem dX0_addLoss_27 : decode cX0_addLoss 27 = .ok (.iconst 1, 1) := by decide +kernel
theorem dX0_addLoss_28 : decode cX0_addLoss 28 = .ok (.iadd, 1) := by decide +kernel
theorem dX0_addLoss_29 : decode cX0_addLoss 29 = .ok (.putfield 58, 3) := by decide +kernel
theorem dX0_addLoss_32 : decode cX0_addLoss 32 = .ok (.iload_n 2, 1) := by decide +kernel
theorem dX0_addLoss_33 : decode cX0_addLoss 33 = .ok (.ireturn, 1) := by decide +kernel
theorem dX0_addLeg_0 : decode cX0_addLeg 0 = .ok (.aload_n 0, 1) := by decide +kernel
theorem dX0_addLeg_1 : decode cX0_addLeg 1 = .ok (.getfield 61, 3) := by decide +kernel
theorem dX0_addLeg_4 : decode cX0_addLeg 4 = .ok (.ifCond .lt 41, 3) := by decide +kernel
theorem dX0_addLeg_7 : decode cX0_addLeg 7 = .ok (.aload_n 0, 1) := by decide +kernel
theorem dX0_addLeg_8 : decode cX0_addLeg 8 = .ok (.getfield 61, 3) := by decide +kernel
theorem dX0_addLeg_11 : decode cX0_addLeg 11 = .ok (.iconst 4, 1) := by decide +kernel
theorem dX0_addLeg_12 : decode cX0_addLeg 12 = .ok (.if_icmp .ge 33, 3) := by decide +kernel
theorem dX0_addLeg_15 : decode cX0_addLeg 15 = .ok (.aload_n 0, 1) := by decide +kernel
theorem dX0_addLeg_16 : decode cX0_addLeg 16 = .ok (.getfield 30, 3) := by decide +kernel
theorem dX0_addLeg_19 : decode cX0_addLeg 19 = .ok (.aload_n 0, 1) := by decide +kernel
theorem dX0_addLeg_20 : decode cX0_addLeg 20 = .ok (.getfield 61, 3) := by decide +kernel
theorem dX0_addLeg_23 : decode cX0_addLeg 23 = .ok (.iload_n 1, 1) := by decide +kernel
theorem dX0_addLeg_24 : decode cX0_addLeg 24 = .ok (.iastore, 1) := by decide +kernel
theorem dX0_addLeg_25 : decode cX0_addLeg 25 = .ok (.aload_n 0, 1) := by decide +kernel
theorem dX0_addLeg_26 : decode cX0_addLeg 26 = .ok (.getfield 33, 3) := by decide +kernel
theorem dX0_addLeg_29 : decode cX0_addLeg 29 = .ok (.aload_n 0, 1) := by decide +kernel
theorem dX0_addLeg_30 : decode cX0_addLeg 30 = .ok (.getfield 61, 3) := by decide +kernel
theorem dX0_addLeg_33 : decode cX0_addLeg 33 = .ok (.iload_n 2, 1) := by decide +kernel
theorem dX0_addLeg_34 : decode cX0_addLeg 34 = .ok (.iastore, 1) := by decide +kernel
theorem dX0_addLeg_35 : decode cX0_addLeg 35 = .ok (.aload_n 0, 1) := by decide +kernel
theorem dX0_addLeg_36 : decode cX0_addLeg 36 = .ok (.dup, 1) := by decide +kernel
theorem dX0_addLeg_37 : decode cX0_addLeg 37 = .ok (.getfield 61, 3) := by decide +kernel
theorem dX0_addLeg_40 : decode cX0_addLeg 40 = .ok (.iconst 1, 1) := by decide +kernel
theorem dX0_addLeg_41 : decode cX0_addLeg 41 = .ok (.iadd, 1) := by decide +kernel
theorem dX0_addLeg_42 : decode cX0_addLeg 42 = .ok (.putfield 61, 3) := by decide +kernel
theorem dX0_addLeg_45 : decode cX0_addLeg 45 = .ok (.aload_n 0, 1) := by decide +kernel
theorem dX0_addLeg_46 : decode cX0_addLeg 46 = .ok (.getfield 61, 3) := by decide +kernel
theorem dX0_addLeg_49 : decode cX0_addLeg 49 = .ok (.ireturn, 1) := by decide +kernel
theorem dX0_copyFrom_0 : decode cX0_copyFrom 0 = .ok (.iconst 0, 1) := by decide +kernel
theorem dX0_copyFrom_1 : decode cX0_copyFrom 1 = .ok (.istore_n 2, 1) := by decide +kernel
theorem dX0_copyFrom_2 : decode cX0_copyFrom 2 = .ok (.iload_n 2, 1) := by decide +kernel
theorem dX0_copyFrom_3 : decode cX0_copyFrom 3 = .ok (.bipush 6, 2) := by decide +kernel
theorem dX0_copyFrom_5 : decode cX0_copyFrom 5 = .ok (.if_icmp .ge 21, 3) := by decide +kernel
theorem dX0_copyFrom_8 : decode cX0_copyFrom 8 = .ok (.aload_n 0, 1) := by decide +kernel
theorem dX0_copyFrom_9 : decode cX0_copyFrom 9 = .ok (.getfield 11, 3) := by decide +kernel
theorem dX0_copyFrom_12 : decode cX0_copyFrom 12 = .ok (.iload_n 2, 1) := by decide +kernel
theorem dX0_copyFrom_13 : decode cX0_copyFrom 13 = .ok (.aload_n 1, 1) := by decide +kernel
theorem dX0_copyFrom_14 : decode cX0_copyFrom 14 = .ok (.getfield 11, 3) := by decide +kernel
theorem dX0_copyFrom_17 : decode cX0_copyFrom 17 = .ok (.iload_n 2, 1) := by decide +kernel
theorem dX0_copyFrom_18 : decode cX0_copyFrom 18 = .ok (.aaload, 1) := by decide +kernel
theorem dX0_copyFrom_19 : decode cX0_copyFrom 19 = .ok (.aastore, 1) := by decide +kernel
theorem dX0_copyFrom_20 : decode cX0_copyFrom 20 = .ok (.iinc 2 1, 3) := by decide +kernel
theorem dX0_copyFrom_23 : decode cX0_copyFrom 23 = .ok (.goto (-21), 3) := by decide +kernel
theorem dX0_copyFrom_26 : decode cX0_copyFrom 26 = .ok (.iconst 0, 1) := by decide +kernel
theorem dX0_copyFrom_27 : decode cX0_copyFrom 27 = .ok (.istore_n 2, 1) := by decide +kernel
theorem dX0_copyFrom_28 : decode cX0_copyFrom 28 = .ok (.iload_n 2, 1) := by decide +kernel
theorem dX0_copyFrom_29 : decode cX0_copyFrom 29 = .ok (.bipush 8, 2) := by decide +kernel
theorem dX0_copyFrom_31 : decode cX0_copyFrom 31 = .ok (.if_icmp .ge 21, 3) := by decide +kernel
theorem dX0_copyFrom_34 : decode cX0_copyFrom 34 = .ok (.aload_n 0, 1) := by decide +kernel
theorem dX0_copyFrom_35 : decode cX0_copyFrom 35 = .ok (.getfield 19, 3) := by decide +kernel
theorem dX0_copyFrom_38 : decode cX0_copyFrom 38 = .ok (.iload_n 2, 1) := by decide +kernel
theorem dX0_copyFrom_39 : decode cX0_copyFrom 39 = .ok (.aload_n 1, 1) := by decide +kernel
theorem dX0_copyFrom_40 : decode cX0_copyFrom 40 = .ok (.getfield 19, 3) := by decide +kernel
theorem dX0_copyFrom_43 : decode cX0_copyFrom 43 = .ok (.iload_n 2, 1) := by decide +kernel
theorem dX0_copyFrom_44 : decode cX0_copyFrom 44 = .ok (.aaload, 1) := by decide +kernel
theorem dX0_copyFrom_45 : decode cX0_copyFrom 45 = .ok (.aastore, 1) := by decide +kernel
theorem dX0_copyFrom_46 : decode cX0_copyFrom 46 = .ok (.iinc 2 1, 3) := by decide +kernel
theorem dX0_copyFrom_49 : decode cX0_copyFrom 49 = .ok (.goto (-21), 3) := by decide +kernel
theorem dX0_copyFrom_52 : decode cX0_copyFrom 52 = .ok (.aload_n 1, 1) := by decide +kernel
theorem dX0_copyFrom_53 : decode cX0_copyFrom 53 = .ok (.getfield 23, 3) := by decide +kernel
theorem dX0_copyFrom_56 : decode cX0_copyFrom 56 = .ok (.iconst 0, 1) := by decide +kernel
theorem dX0_copyFrom_57 : decode cX0_copyFrom 57 = .ok (.aload_n 0, 1) := by decide +kernel
theorem dX0_copyFrom_58 : decode cX0_copyFrom 58 = .ok (.getfield 23, 3) := by decide +kernel
theorem dX0_copyFrom_61 : decode cX0_copyFrom 61 = .ok (.iconst 0, 1) := by decide +kernel
theorem dX0_copyFrom_62 : decode cX0_copyFrom 62 = .ok (.iconst 4, 1) := by decide +kernel
theorem dX0_copyFrom_63 : decode cX0_copyFrom 63 = .ok (.invokestatic 64, 3) := by decide +kernel
theorem dX0_copyFrom_66 : decode cX0_copyFrom 66 = .ok (.aload_n 1, 1) := by decide +kernel
theorem dX0_copyFrom_67 : decode cX0_copyFrom 67 = .ok (.getfield 27, 3) := by decide +kernel
theorem dX0_copyFrom_70 : decode cX0_copyFrom 70 = .ok (.iconst 0, 1) := by decide +kernel
theorem dX0_copyFrom_71 : decode cX0_copyFrom 71 = .ok (.aload_n 0, 1) := by decide +kernel
theorem dX0_copyFrom_72 : decode cX0_copyFrom 72 = .ok (.getfield 27, 3) := by decide +kernel
theorem dX0_copyFrom_75 : decode cX0_copyFrom 75 = .ok (.iconst 0, 1) := by decide +kernel
theorem dX0_copyFrom_76 : decode cX0_copyFrom 76 = .ok (.iconst 4, 1) := by decide +kernel
theorem dX0_copyFrom_77 : decode cX0_copyFrom 77 = .ok (.invokestatic 64, 3) := by decide +kernel
theorem dX0_copyFrom_80 : decode cX0_copyFrom 80 = .ok (.aload_n 1, 1) := by decide +kernel
theorem dX0_copyFrom_81 : decode cX0_copyFrom 81 = .ok (.getfield 30, 3) := by decide +kernel
theorem dX0_copyFrom_84 : decode cX0_copyFrom 84 = .ok (.iconst 0, 1) := by decide +kernel
theorem dX0_copyFrom_85 : decode cX0_copyFrom 85 = .ok (.aload_n 0, 1) := by decide +kernel
theorem dX0_copyFrom_86 : decode cX0_copyFrom 86 = .ok (.getfield 30, 3) := by decide +kernel
theorem dX0_copyFrom_89 : decode cX0_copyFrom 89 = .ok (.iconst 0, 1) := by decide +kernel
theorem dX0_copyFrom_90 : decode cX0_copyFrom 90 = .ok (.iconst 4, 1) := by decide +kernel
theorem dX0_copyFrom_91 : decode cX0_copyFrom 91 = .ok (.invokestatic 64, 3) := by decide +kernel
theorem dX0_copyFrom_94 : decode cX0_copyFrom 94 = .ok (.aload_n 1, 1) := by decide +kernel
theorem dX0_copyFrom_95 : decode cX0_copyFrom 95 = .ok (.getfield 33, 3) := by decide +kernel
theorem dX0_copyFrom_98 : decode cX0_copyFrom 98 = .ok (.iconst 0, 1) := by decide +kernel
theorem dX0_copyFrom_99 : decode cX0_copyFrom 99 = .ok (.aload_n 0, 1) := by decide +kernel
theorem dX0_copyFrom_100 : decode cX0_copyFrom 100 = .ok (.getfield 33, 3) := by decide +kernel
theorem dX0_copyFrom_103 : decode cX0_copyFrom 103 = .ok (.iconst 0, 1) := by decide +kernel
theorem dX0_copyFrom_104 : decode cX0_copyFrom 104 = .ok (.iconst 4, 1) := by decide +kernel
theorem dX0_copyFrom_105 : decode cX0_copyFrom 105 = .ok (.invokestatic 64, 3) := by decide +kernel
theorem dX0_copyFrom_108 : decode cX0_copyFrom 108 = .ok (.aload_n 0, 1) := by decide +kernel
theorem dX0_copyFrom_109 : decode cX0_copyFrom 109 = .ok (.getfield 39, 3) := by decide +kernel
theorem dX0_copyFrom_112 : decode cX0_copyFrom 112 = .ok (.aload_n 1, 1) := by decide +kernel
theorem dX0_copyFrom_113 : decode cX0_copyFrom 113 = .ok (.getfield 39, 3) := by decide +kernel
theorem dX0_copyFrom_116 : decode cX0_copyFrom 116 = .ok (.invokevirtual 70, 3) := by decide +kernel
theorem dX0_copyFrom_119 : decode cX0_copyFrom 119 = .ok (.aload_n 0, 1) := by decide +kernel
theorem dX0_copyFrom_120 : decode cX0_copyFrom 120 = .ok (.getfield 46, 3) := by decide +kernel
theorem dX0_copyFrom_123 : decode cX0_copyFrom 123 = .ok (.aload_n 1, 1) := by decide +kernel
theorem dX0_copyFrom_124 : decode cX0_copyFrom 124 = .ok (.getfield 46, 3) := by decide +kernel
theorem dX0_copyFrom_127 : decode cX0_copyFrom 127 = .ok (.invokevirtual 74, 3) := by decide +kernel
theorem dX0_copyFrom_130 : decode cX0_copyFrom 130 = .ok (.aload_n 0, 1) := by decide +kernel
theorem dX0_copyFrom_131 : decode cX0_copyFrom 131 = .ok (.aload_n 1, 1) := by decide +kernel
theorem dX0_copyFrom_132 : decode cX0_copyFrom 132 = .ok (.getfield 54, 3) := by decide +kernel
theorem dX0_copyFrom_135 : decode cX0_copyFrom 135 = .ok (.putfield 54, 3) := by decide +kernel
theorem dX0_copyFrom_138 : decode cX0_copyFrom 138 = .ok (.aload_n 0, 1) := by decide +kernel
theorem dX0_copyFrom_139 : decode cX0_copyFrom 139 = .ok (.aload_n 1, 1) := by decide +kernel
theorem dX0_copyFrom_140 : decode cX0_copyFrom 140 = .ok (.getfield 58, 3) := by decide +kernel
theorem dX0_copyFrom_143 : decode cX0_copyFrom 143 = .ok (.putfield 58, 3) := by decide +kernel
theorem dX0_copyFrom_146 : decode cX0_copyFrom 146 = .ok (.aload_n 0, 1) := by decide +kernel
theorem dX0_copyFrom_147 : decode cX0_copyFrom 147 = .ok (.aload_n 1, 1) := by decide +kernel
theorem dX0_copyFrom_148 : decode cX0_copyFrom 148 = .ok (.getfield 61, 3) := by decide +kernel
theorem dX0_copyFrom_151 : decode cX0_copyFrom 151 = .ok (.putfield 61, 3) := by decide +kernel
theorem dX0_copyFrom_154 : decode cX0_copyFrom 154 = .ok (.aload_n 0, 1) := by decide +kernel
theorem dX0_copyFrom_155 : decode cX0_copyFrom 155 = .ok (.aload_n 1, 1) := by decide +kernel
theorem dX0_copyFrom_156 : decode cX0_copyFrom 156 = .ok (.getfield 50, 3) := by decide +kernel
theorem dX0_copyFrom_159 : decode cX0_copyFrom 159 = .ok (.putfield 50, 3) := by decide +kernel
theorem dX0_copyFrom_162 : decode cX0_copyFrom 162 = .ok (.return_, 1) := by decide +kernel
theorem dX1_init_0 : decode cX1_init 0 = .ok (.aload_n 0, 1) := by decide +kernel
theorem dX1_init_1 : decode cX1_init 1 = .ok (.invokespecial 3, 3) := by decide +kernel
theorem dX1_init_4 : decode cX1_init 4 = .ok (.aload_n 0, 1) := by decide +kernel
theorem dX1_init_5 : decode cX1_init 5 = .ok (.iload_n 1, 1) := by decide +kernel
theorem dX1_init_6 : decode cX1_init 6 = .ok (.putfield 9, 3) := by decide +kernel
theorem dX1_init_9 : decode cX1_init 9 = .ok (.aload_n 0, 1) := by decide +kernel
theorem dX1_init_10 : decode cX1_init 10 = .ok (.iload_n 2, 1) := by decide +kernel
theorem dX1_init_11 : decode cX1_init 11 = .ok (.putfield 15, 3) := by decide +kernel
theorem dX1_init_14 : decode cX1_init 14 = .ok (.aload_n 0, 1) := by decide +kernel
theorem dX1_init_15 : decode cX1_init 15 = .ok (.iload_n 3, 1) := by decide +kernel
theorem dX1_init_16 : decode cX1_init 16 = .ok (.putfield 18, 3) := by decide +kernel
theorem dX1_init_19 : decode cX1_init 19 = .ok (.aload_n 0, 1) := by decide +kernel
theorem dX1_init_20 : decode cX1_init 20 = .ok (.aload 4, 2) := by decide +kernel
theorem dX1_init_22 : decode cX1_init 22 = .ok (.putfield 21, 3) := by decide +kernel
theorem dX1_init_25 : decode cX1_init 25 = .ok (.aload_n 0, 1) := by decide +kernel
theorem dX1_init_26 : decode cX1_init 26 = .ok (.bipush 20, 2) := by decide +kernel
theorem dX1_init_28 : decode cX1_init 28 = .ok (.newarray .int, 2) := by decide +kernel
theorem dX1_init_30 : decode cX1_init 30 = .ok (.putfield 25, 3) := by decide +kernel
theorem dX1_init_33 : decode cX1_init 33 = .ok (.return_, 1) := by decide +kernel
theorem dX1_byLaw_0 : decode cX1_byLaw 0 = .ok (.iconst (-1), 1) := by decide +kernel
theorem dX1_byLaw_1 : decode cX1_byLaw 1 = .ok (.istore_n 2, 1) := by decide +kernel
theorem dX1_byLaw_2 : decode cX1_byLaw 2 = .ok (.aload_n 0, 1) := by decide +kernel
theorem dX1_byLaw_3 : decode cX1_byLaw 3 = .ok (.getfield 21, 3) := by decide +kernel
theorem dX1_byLaw_6 : decode cX1_byLaw 6 = .ok (.astore_n 3, 1) := by decide +kernel
theorem dX1_byLaw_7 : decode cX1_byLaw 7 = .ok (.aload_n 3, 1) := by decide +kernel
theorem dX1_byLaw_8 : decode cX1_byLaw 8 = .ok (.arraylength, 1) := by decide +kernel
theorem dX1_byLaw_9 : decode cX1_byLaw 9 = .ok (.istore 4, 2) := by decide +kernel
theorem dX1_byLaw_11 : decode cX1_byLaw 11 = .ok (.iconst 0, 1) := by decide +kernel
theorem dX1_byLaw_12 : decode cX1_byLaw 12 = .ok (.istore 5, 2) := by decide +kernel
theorem dX1_byLaw_14 : decode cX1_byLaw 14 = .ok (.iload 5, 2) := by decide +kernel
theorem dX1_byLaw_16 : decode cX1_byLaw 16 = .ok (.iload 4, 2) := by decide +kernel
theorem dX1_byLaw_18 : decode cX1_byLaw 18 = .ok (.if_icmp .ge 115, 3) := by decide +kernel
theorem dX1_byLaw_21 : decode cX1_byLaw 21 = .ok (.aload_n 3, 1) := by decide +kernel
theorem dX1_byLaw_22 : decode cX1_byLaw 22 = .ok (.iload 5, 2) := by decide +kernel
theorem dX1_byLaw_24 : decode cX1_byLaw 24 = .ok (.iaload, 1) := by decide +kernel
theorem dX1_byLaw_25 : decode cX1_byLaw 25 = .ok (.istore 6, 2) := by decide +kernel
theorem dX1_byLaw_27 : decode cX1_byLaw 27 = .ok (.iload 6, 2) := by decide +kernel
theorem dX1_byLaw_29 : decode cX1_byLaw 29 = .ok (.ifCond .ge 49, 3) := by decide +kernel
theorem dX1_byLaw_32 : decode cX1_byLaw 32 = .ok (.iload_n 2, 1) := by decide +kernel
theorem dX1_byLaw_33 : decode cX1_byLaw 33 = .ok (.iconst 1, 1) := by decide +kernel
theorem dX1_byLaw_34 : decode cX1_byLaw 34 = .ok (.if_icmp .lt 93, 3) := by decide +kernel
theorem dX1_byLaw_37 : decode cX1_byLaw 37 = .ok (.iload_n 2, 1) := by decide +kernel
theorem dX1_byLaw_38 : decode cX1_byLaw 38 = .ok (.aload_n 0, 1) := by decide +kernel
theorem dX1_byLaw_39 : decode cX1_byLaw 39 = .ok (.getfield 25, 3) := by decide +kernel
theorem dX1_byLaw_42 : decode cX1_byLaw 42 = .ok (.arraylength, 1) := by decide +kernel
theorem dX1_byLaw_43 : decode cX1_byLaw 43 = .ok (.if_icmp .ge 84, 3) := by decide +kernel
theorem dX1_byLaw_46 : decode cX1_byLaw 46 = .ok (.iinc 2 (-1), 3) := by decide +kernel
theorem dX1_byLaw_49 : decode cX1_byLaw 49 = .ok (.aload_n 0, 1) := by decide +kernel
theorem dX1_byLaw_50 : decode cX1_byLaw 50 = .ok (.getfield 25, 3) := by decide +kernel
theorem dX1_byLaw_53 : decode cX1_byLaw 53 = .ok (.iload_n 2, 1) := by decide +kernel
theorem dX1_byLaw_54 : decode cX1_byLaw 54 = .ok (.iload 6, 2) := by decide +kernel
theorem dX1_byLaw_56 : decode cX1_byLaw 56 = .ok (.ineg, 1) := by decide +kernel
theorem dX1_byLaw_57 : decode cX1_byLaw 57 = .ok (.aload_n 0, 1) := by decide +kernel
theorem dX1_byLaw_58 : decode cX1_byLaw 58 = .ok (.getfield 25, 3) := by decide +kernel
theorem dX1_byLaw_61 : decode cX1_byLaw 61 = .ok (.iload_n 2, 1) := by decide +kernel
theorem dX1_byLaw_62 : decode cX1_byLaw 62 = .ok (.iaload, 1) := by decide +kernel
theorem dX1_byLaw_63 : decode cX1_byLaw 63 = .ok (.aload_n 0, 1) := by decide +kernel
theorem dX1_byLaw_64 : decode cX1_byLaw 64 = .ok (.getfield 25, 3) := by decide +kernel
theorem dX1_byLaw_67 : decode cX1_byLaw 67 = .ok (.iload_n 2, 1) := by decide +kernel
theorem dX1_byLaw_68 : decode cX1_byLaw 68 = .ok (.iconst 1, 1) := by decide +kernel
theorem dX1_byLaw_69 : decode cX1_byLaw 69 = .ok (.iadd, 1) := by decide +kernel
theorem dX1_byLaw_70 : decode cX1_byLaw 70 = .ok (.iaload, 1) := by decide +kernel
theorem dX1_byLaw_71 : decode cX1_byLaw 71 = .ok (.invokestatic 28, 3) := by decide +kernel
theorem dX1_byLaw_74 : decode cX1_byLaw 74 = .ok (.iastore, 1) := by decide +kernel
theorem dX1_byLaw_75 : decode cX1_byLaw 75 = .ok (.goto 52, 3) := by decide +kernel
theorem dX1_byLaw_78 : decode cX1_byLaw 78 = .ok (.iload_n 2, 1) := by decide +kernel
theorem dX1_byLaw_79 : decode cX1_byLaw 79 = .ok (.iconst 1, 1) := by decide +kernel
theorem dX1_byLaw_80 : decode cX1_byLaw 80 = .ok (.iadd, 1) := by decide +kernel
theorem dX1_byLaw_81 : decode cX1_byLaw 81 = .ok (.aload_n 0, 1) := by decide +kernel
theorem dX1_byLaw_82 : decode cX1_byLaw 82 = .ok (.getfield 25, 3) := by decide +kernel
theorem dX1_byLaw_85 : decode cX1_byLaw 85 = .ok (.arraylength, 1) := by decide +kernel
theorem dX1_byLaw_86 : decode cX1_byLaw 86 = .ok (.if_icmp .ge 41, 3) := by decide +kernel
theorem dX1_byLaw_89 : decode cX1_byLaw 89 = .ok (.iinc 2 1, 3) := by decide +kernel
theorem dX1_byLaw_92 : decode cX1_byLaw 92 = .ok (.iload 6, 2) := by decide +kernel
theorem dX1_byLaw_94 : decode cX1_byLaw 94 = .ok (.sipush 1000, 3) := by decide +kernel
theorem dX1_byLaw_97 : decode cX1_byLaw 97 = .ok (.isub, 1) := by decide +kernel
theorem dX1_byLaw_98 : decode cX1_byLaw 98 = .ok (.istore 7, 2) := by decide +kernel
theorem dX1_byLaw_100 : decode cX1_byLaw 100 = .ok (.aload_n 0, 1) := by decide +kernel
theorem dX1_byLaw_101 : decode cX1_byLaw 101 = .ok (.getfield 25, 3) := by decide +kernel
theorem dX1_byLaw_104 : decode cX1_byLaw 104 = .ok (.iload_n 2, 1) := by decide +kernel
theorem dX1_byLaw_105 : decode cX1_byLaw 105 = .ok (.iload 7, 2) := by decide +kernel
theorem dX1_byLaw_107 : decode cX1_byLaw 107 = .ok (.ifCond .lt 17, 3) := by decide +kernel
theorem dX1_byLaw_110 : decode cX1_byLaw 110 = .ok (.iload 7, 2) := by decide +kernel
theorem dX1_byLaw_112 : decode cX1_byLaw 112 = .ok (.aload_n 1, 1) := by decide +kernel
theorem dX1_byLaw_113 : decode cX1_byLaw 113 = .ok (.arraylength, 1) := by decide +kernel
theorem dX1_byLaw_114 : decode cX1_byLaw 114 = .ok (.if_icmp .ge 10, 3) := by decide +kernel
theorem dX1_byLaw_117 : decode cX1_byLaw 117 = .ok (.aload_n 1, 1) := by decide +kernel
theorem dX1_byLaw_118 : decode cX1_byLaw 118 = .ok (.iload 7, 2) := by decide +kernel
theorem dX1_byLaw_120 : decode cX1_byLaw 120 = .ok (.iaload, 1) := by decide +kernel
theorem dX1_byLaw_121 : decode cX1_byLaw 121 = .ok (.goto 5, 3) := by decide +kernel
theorem dX1_byLaw_124 : decode cX1_byLaw 124 = .ok (.iload 6, 2) := by decide +kernel
theorem dX1_byLaw_126 : decode cX1_byLaw 126 = .ok (.iastore, 1) := by decide +kernel
theorem dX1_byLaw_127 : decode cX1_byLaw 127 = .ok (.iinc 5 1, 3) := by decide +kernel
theorem dX1_byLaw_130 : decode cX1_byLaw 130 = .ok (.goto (-116), 3) := by decide +kernel
theorem dX1_byLaw_133 : decode cX1_byLaw 133 = .ok (.iconst 0, 1) := by decide +kernel
theorem dX1_byLaw_134 : decode cX1_byLaw 134 = .ok (.sipush 9999, 3) := by decide +kernel
theorem dX1_byLaw_137 : decode cX1_byLaw 137 = .ok (.aload_n 0, 1) := by decide +kernel
theorem dX1_byLaw_138 : decode cX1_byLaw 138 = .ok (.getfield 25, 3) := by decide +kernel
theorem dX1_byLaw_141 : decode cX1_byLaw 141 = .ok (.iconst 0, 1) := by decide +kernel
theorem dX1_byLaw_142 : decode cX1_byLaw 142 = .ok (.iaload, 1) := by decide +kernel
theorem dX1_byLaw_143 : decode cX1_byLaw 143 = .ok (.invokestatic 32, 3) := by decide +kernel
theorem dX1_byLaw_146 : decode cX1_byLaw 146 = .ok (.invokestatic 38, 3) := by decide +kernel
theorem dX1_byLaw_149 : decode cX1_byLaw 149 = .ok (.ireturn, 1) := by decide +kernel
theorem dX1_joined_0 : decode cX1_joined 0 = .ok (.iload_n 0, 1) := by decide +kernel
theorem dX1_joined_1 : decode cX1_joined 1 = .ok (.tableswitch 43 42 45 #[39, 31, 43, 35], 31) := by decide +kernel
theorem dX1_joined_32 : decode cX1_joined 32 = .ok (.iload_n 1, 1) := by decide +kernel
theorem dX1_joined_33 : decode cX1_joined 33 = .ok (.iload_n 2, 1) := by decide +kernel
theorem dX1_joined_34 : decode cX1_joined 34 = .ok (.iadd, 1) := by decide +kernel
theorem dX1_joined_35 : decode cX1_joined 35 = .ok (.ireturn, 1) := by decide +kernel
theorem dX1_joined_36 : decode cX1_joined 36 = .ok (.iload_n 1, 1) := by decide +kernel
theorem dX1_joined_37 : decode cX1_joined 37 = .ok (.iload_n 2, 1) := by decide +kernel
theorem dX1_joined_38 : decode cX1_joined 38 = .ok (.isub, 1) := by decide +kernel
theorem dX1_joined_39 : decode cX1_joined 39 = .ok (.ireturn, 1) := by decide +kernel
theorem dX1_joined_40 : decode cX1_joined 40 = .ok (.iload_n 1, 1) := by decide +kernel
theorem dX1_joined_41 : decode cX1_joined 41 = .ok (.iload_n 2, 1) := by decide +kernel
theorem dX1_joined_42 : decode cX1_joined 42 = .ok (.imul, 1) := by decide +kernel
theorem dX1_joined_43 : decode cX1_joined 43 = .ok (.ireturn, 1) := by decide +kernel
theorem dX1_joined_44 : decode cX1_joined 44 = .ok (.iload_n 2, 1) := by decide +kernel
theorem dX1_joined_45 : decode cX1_joined 45 = .ok (.ifCond .ne 7, 3) := by decide +kernel
theorem dX1_joined_48 : decode cX1_joined 48 = .ok (.iconst 0, 1) := by decide +kernel
theorem dX1_joined_49 : decode cX1_joined 49 = .ok (.goto 6, 3) := by decide +kernel
theorem dX1_joined_52 : decode cX1_joined 52 = .ok (.iload_n 1, 1) := by decide +kernel
theorem dX1_joined_53 : decode cX1_joined 53 = .ok (.iload_n 2, 1) := by decide +kernel
theorem dX1_joined_54 : decode cX1_joined 54 = .ok (.idiv, 1) := by decide +kernel
theorem dX1_joined_55 : decode cX1_joined 55 = .ok (.ireturn, 1) := by decide +kernel
theorem dX2_init_0 : decode cX2_init 0 = .ok (.aload_n 0, 1) := by decide +kernel
theorem dX2_init_1 : decode cX2_init 1 = .ok (.invokespecial 3, 3) := by decide +kernel
theorem dX2_init_4 : decode cX2_init 4 = .ok (.aload_n 0, 1) := by decide +kernel
theorem dX2_init_5 : decode cX2_init 5 = .ok (.bipush 8, 2) := by decide +kernel
theorem dX2_init_7 : decode cX2_init 7 = .ok (.newarray .int, 2) := by decide +kernel
theorem dX2_init_9 : decode cX2_init 9 = .ok (.putfield 9, 3) := by decide +kernel
theorem dX2_init_12 : decode cX2_init 12 = .ok (.aload_n 0, 1) := by decide +kernel
theorem dX2_init_13 : decode cX2_init 13 = .ok (.bipush 8, 2) := by decide +kernel
theorem dX2_init_15 : decode cX2_init 15 = .ok (.newarray .int, 2) := by decide +kernel
theorem dX2_init_17 : decode cX2_init 17 = .ok (.putfield 15, 3) := by decide +kernel
theorem dX2_init_20 : decode cX2_init 20 = .ok (.aload_n 0, 1) := by decide +kernel
theorem dX2_init_21 : decode cX2_init 21 = .ok (.aload_n 1, 1) := by decide +kernel
theorem dX2_init_22 : decode cX2_init 22 = .ok (.putfield 18, 3) := by decide +kernel
theorem dX2_init_25 : decode cX2_init 25 = .ok (.return_, 1) := by decide +kernel
theorem dX2_begin_0 : decode cX2_begin 0 = .ok (.aload_n 1, 1) := by decide +kernel
theorem dX2_begin_1 : decode cX2_begin 1 = .ok (.ifnull 60, 3) := by decide +kernel
theorem dX2_begin_4 : decode cX2_begin 4 = .ok (.aload_n 0, 1) := by decide +kernel
theorem dX2_begin_5 : decode cX2_begin 5 = .ok (.getfield 9, 3) := by decide +kernel
theorem dX2_begin_8 : decode cX2_begin 8 = .ok (.iconst 2, 1) := by decide +kernel
theorem dX2_begin_9 : decode cX2_begin 9 = .ok (.aload_n 1, 1) := by decide +kernel
theorem dX2_begin_10 : decode cX2_begin 10 = .ok (.getfield 22, 3) := by decide +kernel
theorem dX2_begin_13 : decode cX2_begin 13 = .ok (.iastore, 1) := by decide +kernel
theorem dX2_begin_14 : decode cX2_begin 14 = .ok (.aload_n 0, 1) := by decide +kernel
theorem dX2_begin_15 : decode cX2_begin 15 = .ok (.getfield 9, 3) := by decide +kernel
theorem dX2_begin_18 : decode cX2_begin 18 = .ok (.iconst 3, 1) := by decide +kernel
theorem dX2_begin_19 : decode cX2_begin 19 = .ok (.aload_n 1, 1) := by decide +kernel
theorem dX2_begin_20 : decode cX2_begin 20 = .ok (.getfield 28, 3) := by decide +kernel
theorem dX2_begin_23 : decode cX2_begin 23 = .ok (.iastore, 1) := by decide +kernel
theorem dX2_begin_24 : decode cX2_begin 24 = .ok (.aload_n 0, 1) := by decide +kernel
theorem dX2_begin_25 : decode cX2_begin 25 = .ok (.getfield 9, 3) := by decide +kernel
theorem dX2_begin_28 : decode cX2_begin 28 = .ok (.iconst 4, 1) := by decide +kernel
theorem dX2_begin_29 : decode cX2_begin 29 = .ok (.aload_n 1, 1) := by decide +kernel
theorem dX2_begin_30 : decode cX2_begin 30 = .ok (.getfield 31, 3) := by decide +kernel
theorem dX2_begin_33 : decode cX2_begin 33 = .ok (.iastore, 1) := by decide +kernel
theorem dX2_begin_34 : decode cX2_begin 34 = .ok (.aload_n 0, 1) := by decide +kernel
theorem dX2_begin_35 : decode cX2_begin 35 = .ok (.getfield 9, 3) := by decide +kernel
theorem dX2_begin_38 : decode cX2_begin 38 = .ok (.iconst 5, 1) := by decide +kernel
theorem dX2_begin_39 : decode cX2_begin 39 = .ok (.aload_n 1, 1) := by decide +kernel
theorem dX2_begin_40 : decode cX2_begin 40 = .ok (.getfield 34, 3) := by decide +kernel
theorem dX2_begin_43 : decode cX2_begin 43 = .ok (.iastore, 1) := by decide +kernel
theorem dX2_begin_44 : decode cX2_begin 44 = .ok (.aload_n 0, 1) := by decide +kernel
theorem dX2_begin_45 : decode cX2_begin 45 = .ok (.aload_n 1, 1) := by decide +kernel
theorem dX2_begin_46 : decode cX2_begin 46 = .ok (.getfield 37, 3) := by decide +kernel
theorem dX2_begin_49 : decode cX2_begin 49 = .ok (.iconst 5, 1) := by decide +kernel
theorem dX2_begin_50 : decode cX2_begin 50 = .ok (.if_icmp .lt 7, 3) := by decide +kernel
theorem dX2_begin_53 : decode cX2_begin 53 = .ok (.iconst 1, 1) := by decide +kernel
theorem dX2_begin_54 : decode cX2_begin 54 = .ok (.goto 4, 3) := by decide +kernel
theorem dX2_begin_57 : decode cX2_begin 57 = .ok (.iconst 0, 1) := by decide +kernel
theorem dX2_begin_58 : decode cX2_begin 58 = .ok (.putfield 40, 3) := by decide +kernel
theorem dX2_begin_61 : decode cX2_begin 61 = .ok (.aload_n 0, 1) := by decide +kernel
theorem dX2_begin_62 : decode cX2_begin 62 = .ok (.iload_n 3, 1) := by decide +kernel
theorem dX2_begin_63 : decode cX2_begin 63 = .ok (.invokevirtual 44, 3) := by decide +kernel
theorem dX2_begin_66 : decode cX2_begin 66 = .ok (.aload_n 0, 1) := by decide +kernel
theorem dX2_begin_67 : decode cX2_begin 67 = .ok (.iconst 0, 1) := by decide +kernel
theorem dX2_begin_68 : decode cX2_begin 68 = .ok (.putfield 48, 3) := by decide +kernel
theorem dX2_begin_71 : decode cX2_begin 71 = .ok (.aload_n 0, 1) := by decide +kernel
theorem dX2_begin_72 : decode cX2_begin 72 = .ok (.iconst 0, 1) := by decide +kernel
theorem dX2_begin_73 : decode cX2_begin 73 = .ok (.putfield 51, 3) := by decide +kernel
theorem dX2_begin_76 : decode cX2_begin 76 = .ok (.aload_n 0, 1) := by decide +kernel
theorem dX2_begin_77 : decode cX2_begin 77 = .ok (.iconst (-1), 1) := by decide +kernel
theorem dX2_begin_78 : decode cX2_begin 78 = .ok (.putfield 54, 3) := by decide +kernel
theorem dX2_begin_81 : decode cX2_begin 81 = .ok (.aload_n 0, 1) := by decide +kernel
theorem dX2_begin_82 : decode cX2_begin 82 = .ok (.iconst 1, 1) := by decide +kernel
theorem dX2_begin_83 : decode cX2_begin 83 = .ok (.putfield 57, 3) := by decide +kernel
theorem dX2_begin_86 : decode cX2_begin 86 = .ok (.aload_n 0, 1) := by decide +kernel
theorem dX2_begin_87 : decode cX2_begin 87 = .ok (.aload_n 0, 1) := by decide +kernel
theorem dX2_begin_88 : decode cX2_begin 88 = .ok (.getfield 18, 3) := by decide +kernel
theorem dX2_begin_91 : decode cX2_begin 91 = .ok (.getfield 60, 3) := by decide +kernel
theorem dX2_begin_94 : decode cX2_begin 94 = .ok (.putfield 65, 3) := by decide +kernel
theorem dX2_begin_97 : decode cX2_begin 97 = .ok (.aload_n 0, 1) := by decide +kernel
theorem dX2_begin_98 : decode cX2_begin 98 = .ok (.aconst_null, 1) := by decide +kernel
theorem dX2_begin_99 : decode cX2_begin 99 = .ok (.putfield 66, 3) := by decide +kernel
theorem dX2_begin_102 : decode cX2_begin 102 = .ok (.aload_n 0, 1) := by decide +kernel
theorem dX2_begin_103 : decode cX2_begin 103 = .ok (.iload_n 2, 1) := by decide +kernel
theorem dX2_begin_104 : decode cX2_begin 104 = .ok (.invokevirtual 70, 3) := by decide +kernel
theorem dX2_begin_107 : decode cX2_begin 107 = .ok (.return_, 1) := by decide +kernel
theorem dX2_layOn_0 : decode cX2_layOn 0 = .ok (.iload_n 1, 1) := by decide +kernel
theorem dX2_layOn_1 : decode cX2_layOn 1 = .ok (.invokestatic 73, 3) := by decide +kernel
theorem dX2_layOn_4 : decode cX2_layOn 4 = .ok (.ifCond .eq 35, 3) := by decide +kernel
theorem dX2_layOn_7 : decode cX2_layOn 7 = .ok (.aload_n 0, 1) := by decide +kernel
theorem dX2_layOn_8 : decode cX2_layOn 8 = .ok (.getfield 9, 3) := by decide +kernel
theorem dX2_layOn_11 : decode cX2_layOn 11 = .ok (.bipush 6, 2) := by decide +kernel
theorem dX2_layOn_13 : decode cX2_layOn 13 = .ok (.aload_n 0, 1) := by decide +kernel
theorem dX2_layOn_14 : decode cX2_layOn 14 = .ok (.getfield 18, 3) := by decide +kernel
theorem dX2_layOn_17 : decode cX2_layOn 17 = .ok (.getfield 77, 3) := by decide +kernel
theorem dX2_layOn_20 : decode cX2_layOn 20 = .ok (.iload_n 1, 1) := by decide +kernel
theorem dX2_layOn_21 : decode cX2_layOn 21 = .ok (.iaload, 1) := by decide +kernel
theorem dX2_layOn_22 : decode cX2_layOn 22 = .ok (.iastore, 1) := by decide +kernel
theorem dX2_layOn_23 : decode cX2_layOn 23 = .ok (.aload_n 0, 1) := by decide +kernel
theorem dX2_layOn_24 : decode cX2_layOn 24 = .ok (.getfield 9, 3) := by decide +kernel
theorem dX2_layOn_27 : decode cX2_layOn 27 = .ok (.bipush 7, 2) := by decide +kernel
theorem dX2_layOn_29 : decode cX2_layOn 29 = .ok (.aload_n 0, 1) := by decide +kernel
theorem dX2_layOn_30 : decode cX2_layOn 30 = .ok (.getfield 18, 3) := by decide +kernel
theorem dX2_layOn_33 : decode cX2_layOn 33 = .ok (.getfield 80, 3) := by decide +kernel
theorem dX2_layOn_36 : decode cX2_layOn 36 = .ok (.iload_n 1, 1) := by decide +kernel
theorem dX2_layOn_37 : decode cX2_layOn 37 = .ok (.iaload, 1) := by decide +kernel
theorem dX2_layOn_38 : decode cX2_layOn 38 = .ok (.iastore, 1) := by decide +kernel
theorem dX2_layOn_39 : decode cX2_layOn 39 = .ok (.return_, 1) := by decide +kernel
theorem dX2_takeEdge_0 : decode cX2_takeEdge 0 = .ok (.aload_n 0, 1) := by decide +kernel
theorem dX2_takeEdge_1 : decode cX2_takeEdge 1 = .ok (.getfield 9, 3) := by decide +kernel
theorem dX2_takeEdge_4 : decode cX2_takeEdge 4 = .ok (.iconst 4, 1) := by decide +kernel
theorem dX2_takeEdge_5 : decode cX2_takeEdge 5 = .ok (.iload_n 1, 1) := by decide +kernel
theorem dX2_takeEdge_6 : decode cX2_takeEdge 6 = .ok (.iastore, 1) := by decide +kernel
theorem dX2_takeEdge_7 : decode cX2_takeEdge 7 = .ok (.return_, 1) := by decide +kernel
theorem dX2_loseMore_0 : decode cX2_loseMore 0 = .ok (.aload_n 0, 1) := by decide +kernel
theorem dX2_loseMore_1 : decode cX2_loseMore 1 = .ok (.aload_n 1, 1) := by decide +kernel
theorem dX2_loseMore_2 : decode cX2_loseMore 2 = .ok (.putfield 66, 3) := by decide +kernel
theorem dX2_loseMore_5 : decode cX2_loseMore 5 = .ok (.aload_n 0, 1) := by decide +kernel
theorem dX2_loseMore_6 : decode cX2_loseMore 6 = .ok (.iload_n 2, 1) := by decide +kernel
theorem dX2_loseMore_7 : decode cX2_loseMore 7 = .ok (.putfield 83, 3) := by decide +kernel
theorem dX2_loseMore_10 : decode cX2_loseMore 10 = .ok (.return_, 1) := by decide +kernel
theorem dX2_leanTo_0 : decode cX2_leanTo 0 = .ok (.aload_n 0, 1) := by decide +kernel
theorem dX2_leanTo_1 : decode cX2_leanTo 1 = .ok (.iload_n 1, 1) := by decide +kernel
theorem dX2_leanTo_2 : decode cX2_leanTo 2 = .ok (.putfield 86, 3) := by decide +kernel
theorem dX2_leanTo_5 : decode cX2_leanTo 5 = .ok (.aload_n 0, 1) := by decide +kernel
theorem dX2_leanTo_6 : decode cX2_leanTo 6 = .ok (.aload_n 0, 1) := by decide +kernel
theorem dX2_leanTo_7 : decode cX2_leanTo 7 = .ok (.getfield 86, 3) := by decide +kernel
theorem dX2_leanTo_10 : decode cX2_leanTo 10 = .ok (.aload_n 0, 1) := by decide +kernel
theorem dX2_leanTo_11 : decode cX2_leanTo 11 = .ok (.getfield 9, 3) := by decide +kernel
theorem dX2_leanTo_14 : decode cX2_leanTo 14 = .ok (.iconst 3, 1) := by decide +kernel
theorem dX2_leanTo_15 : decode cX2_leanTo 15 = .ok (.iaload, 1) := by decide +kernel
theorem dX2_leanTo_16 : decode cX2_leanTo 16 = .ok (.aload_n 0, 1) := by decide +kernel
theorem dX2_leanTo_17 : decode cX2_leanTo 17 = .ok (.getfield 9, 3) := by decide +kernel
theorem dX2_leanTo_20 : decode cX2_leanTo 20 = .ok (.iconst 5, 1) := by decide +kernel
theorem dX2_leanTo_21 : decode cX2_leanTo 21 = .ok (.iaload, 1) := by decide +kernel
theorem dX2_leanTo_22 : decode cX2_leanTo 22 = .ok (.invokestatic 89, 3) := by decide +kernel
theorem dX2_leanTo_25 : decode cX2_leanTo 25 = .ok (.putfield 93, 3) := by decide +kernel
theorem dX2_leanTo_28 : decode cX2_leanTo 28 = .ok (.aload_n 0, 1) := by decide +kernel
theorem dX2_leanTo_29 : decode cX2_leanTo 29 = .ok (.getfield 9, 3) := by decide +kernel
theorem dX2_leanTo_32 : decode cX2_leanTo 32 = .ok (.iconst 0, 1) := by decide +kernel
theorem dX2_leanTo_33 : decode cX2_leanTo 33 = .ok (.aload_n 0, 1) := by decide +kernel
theorem dX2_leanTo_34 : decode cX2_leanTo 34 = .ok (.getfield 86, 3) := by decide +kernel
theorem dX2_leanTo_37 : decode cX2_leanTo 37 = .ok (.iastore, 1) := by decide +kernel
theorem dX2_leanTo_38 : decode cX2_leanTo 38 = .ok (.aload_n 0, 1) := by decide +kernel
theorem dX2_leanTo_39 : decode cX2_leanTo 39 = .ok (.getfield 9, 3) := by decide +kernel
theorem dX2_leanTo_42 : decode cX2_leanTo 42 = .ok (.iconst 1, 1) := by decide +kernel
theorem dX2_leanTo_43 : decode cX2_leanTo 43 = .ok (.aload_n 0, 1) := by decide +kernel
theorem dX2_leanTo_44 : decode cX2_leanTo 44 = .ok (.getfield 93, 3) := by decide +kernel
theorem dX2_leanTo_47 : decode cX2_leanTo 47 = .ok (.iastore, 1) := by decide +kernel
theorem dX2_leanTo_48 : decode cX2_leanTo 48 = .ok (.return_, 1) := by decide +kernel
theorem dX2_runTo_0 : decode cX2_runTo 0 = .ok (.iconst 0, 1) := by decide +kernel
theorem dX2_runTo_1 : decode cX2_runTo 1 = .ok (.istore_n 2, 1) := by decide +kernel
theorem dX2_runTo_2 : decode cX2_runTo 2 = .ok (.iload_n 2, 1) := by decide +kernel
theorem dX2_runTo_3 : decode cX2_runTo 3 = .ok (.sipush 9999, 3) := by decide +kernel
theorem dX2_runTo_6 : decode cX2_runTo 6 = .ok (.if_icmp .ge 28, 3) := by decide +kernel
theorem dX2_runTo_9 : decode cX2_runTo 9 = .ok (.aload_n 0, 1) := by decide +kernel
theorem dX2_runTo_10 : decode cX2_runTo 10 = .ok (.getfield 48, 3) := by decide +kernel
theorem dX2_runTo_13 : decode cX2_runTo 13 = .ok (.iload_n 1, 1) := by decide +kernel
theorem dX2_runTo_14 : decode cX2_runTo 14 = .ok (.if_icmp .ge 20, 3) := by decide +kernel
theorem dX2_runTo_17 : decode cX2_runTo 17 = .ok (.aload_n 0, 1) := by decide +kernel
theorem dX2_runTo_18 : decode cX2_runTo 18 = .ok (.getfield 51, 3) := by decide +kernel
theorem dX2_runTo_21 : decode cX2_runTo 21 = .ok (.ifCond .ne 13, 3) := by decide +kernel
theorem dX2_runTo_24 : decode cX2_runTo 24 = .ok (.aload_n 0, 1) := by decide +kernel
theorem dX2_runTo_25 : decode cX2_runTo 25 = .ok (.invokevirtual 96, 3) := by decide +kernel
theorem dX2_runTo_28 : decode cX2_runTo 28 = .ok (.iinc 2 1, 3) := by decide +kernel
theorem dX2_runTo_31 : decode cX2_runTo 31 = .ok (.goto (-29), 3) := by decide +kernel
theorem dX2_runTo_34 : decode cX2_runTo 34 = .ok (.return_, 1) := by decide +kernel
theorem dX2_advance_0 : decode cX2_advance 0 = .ok (.iconst 0, 1) := by decide +kernel
theorem dX2_advance_1 : decode cX2_advance 1 = .ok (.istore_n 1, 1) := by decide +kernel
theorem dX2_advance_2 : decode cX2_advance 2 = .ok (.iconst 0, 1) := by decide +kernel
theorem dX2_advance_3 : decode cX2_advance 3 = .ok (.istore_n 2, 1) := by decide +kernel
theorem dX2_advance_4 : decode cX2_advance 4 = .ok (.iconst 0, 1) := by decide +kernel
theorem dX2_advance_5 : decode cX2_advance 5 = .ok (.istore_n 3, 1) := by decide +kernel
theorem dX2_advance_6 : decode cX2_advance 6 = .ok (.iload_n 3, 1) := by decide +kernel
theorem dX2_advance_7 : decode cX2_advance 7 = .ok (.bipush 8, 2) := by decide +kernel
theorem dX2_advance_9 : decode cX2_advance 9 = .ok (.if_icmp .ge 87, 3) := by decide +kernel
theorem dX2_advance_12 : decode cX2_advance 12 = .ok (.aload_n 0, 1) := by decide +kernel
theorem dX2_advance_13 : decode cX2_advance 13 = .ok (.getfield 18, 3) := by decide +kernel
theorem dX2_advance_16 : decode cX2_advance 16 = .ok (.iload_n 3, 1) := by decide +kernel
theorem dX2_advance_17 : decode cX2_advance 17 = .ok (.invokevirtual 99, 3) := by decide +kernel
theorem dX2_advance_20 : decode cX2_advance 20 = .ok (.astore 4, 2) := by decide +kernel
theorem dX2_advance_22 : decode cX2_advance 22 = .ok (.aload 4, 2) := by decide +kernel
theorem dX2_advance_24 : decode cX2_advance 24 = .ok (.ifnull 14, 3) := by decide +kernel
theorem dX2_advance_27 : decode cX2_advance 27 = .ok (.aload_n 0, 1) := by decide +kernel
theorem dX2_advance_28 : decode cX2_advance 28 = .ok (.getfield 54, 3) := by decide +kernel
theorem dX2_advance_31 : decode cX2_advance 31 = .ok (.iload_n 3, 1) := by decide +kernel
theorem dX2_advance_32 : decode cX2_advance 32 = .ok (.ishr, 1) := by decide +kernel
theorem dX2_advance_33 : decode cX2_advance 33 = .ok (.iconst 1, 1) := by decide +kernel
theorem dX2_advance_34 : decode cX2_advance 34 = .ok (.iand, 1) := by decide +kernel
theorem dX2_advance_35 : decode cX2_advance 35 = .ok (.ifCond .ne 7, 3) := by decide +kernel
theorem dX2_advance_38 : decode cX2_advance 38 = .ok (.iconst 0, 1) := by decide +kernel
theorem dX2_advance_39 : decode cX2_advance 39 = .ok (.goto 9, 3) := by decide +kernel
theorem dX2_advance_42 : decode cX2_advance 42 = .ok (.aload_n 0, 1) := by decide +kernel
theorem dX2_advance_43 : decode cX2_advance 43 = .ok (.aload 4, 2) := by decide +kernel
theorem dX2_advance_45 : decode cX2_advance 45 = .ok (.invokevirtual 103, 3) := by decide +kernel
theorem dX2_advance_48 : decode cX2_advance 48 = .ok (.istore 5, 2) := by decide +kernel
theorem dX2_advance_50 : decode cX2_advance 50 = .ok (.aload_n 0, 1) := by decide +kernel
theorem dX2_advance_51 : decode cX2_advance 51 = .ok (.getfield 15, 3) := by decide +kernel
theorem dX2_advance_54 : decode cX2_advance 54 = .ok (.iload_n 3, 1) := by decide +kernel
theorem dX2_advance_55 : decode cX2_advance 55 = .ok (.iload 5, 2) := by decide +kernel
theorem dX2_advance_57 : decode cX2_advance 57 = .ok (.iastore, 1) := by decide +kernel
theorem dX2_advance_58 : decode cX2_advance 58 = .ok (.iload_n 1, 1) := by decide +kernel
theorem dX2_advance_59 : decode cX2_advance 59 = .ok (.iload 5, 2) := by decide +kernel
theorem dX2_advance_61 : decode cX2_advance 61 = .ok (.iadd, 1) := by decide +kernel
theorem dX2_advance_62 : decode cX2_advance 62 = .ok (.istore_n 1, 1) := by decide +kernel
theorem dX2_advance_63 : decode cX2_advance 63 = .ok (.iload_n 2, 1) := by decide +kernel
theorem dX2_advance_64 : decode cX2_advance 64 = .ok (.iload 5, 2) := by decide +kernel
theorem dX2_advance_66 : decode cX2_advance 66 = .ok (.ifCond .le 21, 3) := by decide +kernel
theorem dX2_advance_69 : decode cX2_advance 69 = .ok (.aload 4, 2) := by decide +kernel
theorem dX2_advance_71 : decode cX2_advance 71 = .ok (.ifnull 16, 3) := by decide +kernel
theorem dX2_advance_74 : decode cX2_advance 74 = .ok (.aload 4, 2) := by decide +kernel
theorem dX2_advance_76 : decode cX2_advance 76 = .ok (.getfield 107, 3) := by decide +kernel
theorem dX2_advance_79 : decode cX2_advance 79 = .ok (.iconst 3, 1) := by decide +kernel
theorem dX2_advance_80 : decode cX2_advance 80 = .ok (.if_icmp .ne 7, 3) := by decide +kernel
theorem dX2_advance_83 : decode cX2_advance 83 = .ok (.iconst 1, 1) := by decide +kernel
theorem dX2_advance_84 : decode cX2_advance 84 = .ok (.goto 4, 3) := by decide +kernel
theorem dX2_advance_87 : decode cX2_advance 87 = .ok (.iconst 0, 1) := by decide +kernel
theorem dX2_advance_88 : decode cX2_advance 88 = .ok (.ior, 1) := by decide +kernel
theorem dX2_advance_89 : decode cX2_advance 89 = .ok (.istore_n 2, 1) := by decide +kernel
theorem dX2_advance_90 : decode cX2_advance 90 = .ok (.iinc 3 1, 3) := by decide +kernel
theorem dX2_advance_93 : decode cX2_advance 93 = .ok (.goto (-87), 3) := by decide +kernel
theorem dX2_advance_96 : decode cX2_advance 96 = .ok (.aload_n 0, 1) := by decide +kernel
theorem dX2_advance_97 : decode cX2_advance 97 = .ok (.getfield 66, 3) := by decide +kernel
theorem dX2_advance_100 : decode cX2_advance 100 = .ok (.ifnull 28, 3) := by decide +kernel
theorem dX2_advance_103 : decode cX2_advance 103 = .ok (.aload_n 0, 1) := by decide +kernel
theorem dX2_advance_104 : decode cX2_advance 104 = .ok (.getfield 48, 3) := by decide +kernel
theorem dX2_advance_107 : decode cX2_advance 107 = .ok (.aload_n 0, 1) := by decide +kernel
theorem dX2_advance_108 : decode cX2_advance 108 = .ok (.getfield 83, 3) := by decide +kernel
theorem dX2_advance_111 : decode cX2_advance 111 = .ok (.if_icmp .lt 17, 3) := by decide +kernel
theorem dX2_advance_114 : decode cX2_advance 114 = .ok (.iload_n 1, 1) := by decide +kernel
theorem dX2_advance_115 : decode cX2_advance 115 = .ok (.aload_n 0, 1) := by decide +kernel
theorem dX2_advance_116 : decode cX2_advance 116 = .ok (.getfield 66, 3) := by decide +kernel
theorem dX2_advance_119 : decode cX2_advance 119 = .ok (.aload_n 0, 1) := by decide +kernel
theorem dX2_advance_120 : decode cX2_advance 120 = .ok (.getfield 9, 3) := by decide +kernel
theorem dX2_advance_123 : decode cX2_advance 123 = .ok (.invokevirtual 112, 3) := by decide +kernel
theorem dX2_advance_126 : decode cX2_advance 126 = .ok (.iadd, 1) := by decide +kernel
theorem dX2_advance_127 : decode cX2_advance 127 = .ok (.istore_n 1, 1) := by decide +kernel
theorem dX2_advance_128 : decode cX2_advance 128 = .ok (.aload_n 0, 1) := by decide +kernel
theorem dX2_advance_129 : decode cX2_advance 129 = .ok (.iconst 0, 1) := by decide +kernel
theorem dX2_advance_130 : decode cX2_advance 130 = .ok (.aload_n 0, 1) := by decide +kernel
theorem dX2_advance_131 : decode cX2_advance 131 = .ok (.getfield 86, 3) := by decide +kernel
theorem dX2_advance_134 : decode cX2_advance 134 = .ok (.iload_n 1, 1) := by decide +kernel
theorem dX2_advance_135 : decode cX2_advance 135 = .ok (.aload_n 0, 1) := by decide +kernel
theorem dX2_advance_136 : decode cX2_advance 136 = .ok (.getfield 57, 3) := by decide +kernel
theorem dX2_advance_139 : decode cX2_advance 139 = .ok (.imul, 1) := by decide +kernel
theorem dX2_advance_140 : decode cX2_advance 140 = .ok (.isub, 1) := by decide +kernel
theorem dX2_advance_141 : decode cX2_advance 141 = .ok (.invokestatic 116, 3) := by decide +kernel
theorem dX2_advance_144 : decode cX2_advance 144 = .ok (.invokevirtual 70, 3) := by decide +kernel
theorem dX2_advance_147 : decode cX2_advance 147 = .ok (.aload_n 0, 1) := by decide +kernel
theorem dX2_advance_148 : decode cX2_advance 148 = .ok (.dup, 1) := by decide +kernel
theorem dX2_advance_149 : decode cX2_advance 149 = .ok (.getfield 48, 3) := by decide +kernel
theorem dX2_advance_152 : decode cX2_advance 152 = .ok (.aload_n 0, 1) := by decide +kernel
theorem dX2_advance_153 : decode cX2_advance 153 = .ok (.getfield 57, 3) := by decide +kernel
theorem dX2_advance_156 : decode cX2_advance 156 = .ok (.iadd, 1) := by decide +kernel
theorem dX2_advance_157 : decode cX2_advance 157 = .ok (.putfield 48, 3) := by decide +kernel
theorem dX2_advance_160 : decode cX2_advance 160 = .ok (.aload_n 0, 1) := by decide +kernel
theorem dX2_advance_161 : decode cX2_advance 161 = .ok (.aload_n 0, 1) := by decide +kernel
theorem dX2_advance_162 : decode cX2_advance 162 = .ok (.iload_n 1, 1) := by decide +kernel
theorem dX2_advance_163 : decode cX2_advance 163 = .ok (.iload_n 2, 1) := by decide +kernel
theorem dX2_advance_164 : decode cX2_advance 164 = .ok (.invokevirtual 122, 3) := by decide +kernel
theorem dX2_advance_167 : decode cX2_advance 167 = .ok (.putfield 51, 3) := by decide +kernel
theorem dX2_advance_170 : decode cX2_advance 170 = .ok (.return_, 1) := by decide +kernel
theorem dX2_endBy_0 : decode cX2_endBy 0 = .ok (.aload_n 0, 1) := by decide +kernel
theorem dX2_endBy_1 : decode cX2_endBy 1 = .ok (.getfield 86, 3) := by decide +kernel
theorem dX2_endBy_4 : decode cX2_endBy 4 = .ok (.ifCond .ne 5, 3) := by decide +kernel
theorem dX2_endBy_7 : decode cX2_endBy 7 = .ok (.iconst 1, 1) := by decide +kernel
theorem dX2_endBy_8 : decode cX2_endBy 8 = .ok (.ireturn, 1) := by decide +kernel
theorem dX2_endBy_9 : decode cX2_endBy 9 = .ok (.iload_n 2, 1) := by decide +kernel
theorem dX2_endBy_10 : decode cX2_endBy 10 = .ok (.ifCond .eq 5, 3) := by decide +kernel
theorem dX2_endBy_13 : decode cX2_endBy 13 = .ok (.iconst 2, 1) := by decide +kernel
theorem dX2_endBy_14 : decode cX2_endBy 14 = .ok (.ireturn, 1) := by decide +kernel
theorem dX2_endBy_15 : decode cX2_endBy 15 = .ok (.iload_n 1, 1) := by decide +kernel
theorem dX2_endBy_16 : decode cX2_endBy 16 = .ok (.ifCond .ne 5, 3) := by decide +kernel
theorem dX2_endBy_19 : decode cX2_endBy 19 = .ok (.iconst 3, 1) := by decide +kernel
theorem dX2_endBy_20 : decode cX2_endBy 20 = .ok (.ireturn, 1) := by decide +kernel
theorem dX2_endBy_21 : decode cX2_endBy 21 = .ok (.aload_n 0, 1) := by decide +kernel
theorem dX2_endBy_22 : decode cX2_endBy 22 = .ok (.getfield 48, 3) := by decide +kernel
theorem dX2_endBy_25 : decode cX2_endBy 25 = .ok (.sipush 9999, 3) := by decide +kernel
theorem dX2_endBy_28 : decode cX2_endBy 28 = .ok (.if_icmp .lt 7, 3) := by decide +kernel
theorem dX2_endBy_31 : decode cX2_endBy 31 = .ok (.iconst 4, 1) := by decide +kernel
theorem dX2_endBy_32 : decode cX2_endBy 32 = .ok (.goto 4, 3) := by decide +kernel
theorem dX2_endBy_35 : decode cX2_endBy 35 = .ok (.iconst 0, 1) := by decide +kernel
theorem dX2_endBy_36 : decode cX2_endBy 36 = .ok (.ireturn, 1) := by decide +kernel
theorem dX2_takenBy_0 : decode cX2_takenBy 0 = .ok (.aload_n 1, 1) := by decide +kernel
theorem dX2_takenBy_1 : decode cX2_takenBy 1 = .ok (.getfield 107, 3) := by decide +kernel
theorem dX2_takenBy_4 : decode cX2_takenBy 4 = .ok (.tableswitch 196 0 6 #[44, 196, 84, 106, 138, 196, 161], 44) := by decide +kernel
theorem dX2_takenBy_48 : decode cX2_takenBy 48 = .ok (.aload_n 0, 1) := by decide +kernel
theorem dX2_takenBy_49 : decode cX2_takenBy 49 = .ok (.getfield 65, 3) := by decide +kernel
theorem dX2_takenBy_52 : decode cX2_takenBy 52 = .ok (.ifCond .ne 7, 3) := by decide +kernel
theorem dX2_takenBy_55 : decode cX2_takenBy 55 = .ok (.iconst 0, 1) := by decide +kernel
theorem dX2_takenBy_56 : decode cX2_takenBy 56 = .ok (.goto 31, 3) := by decide +kernel
theorem dX2_takenBy_59 : decode cX2_takenBy 59 = .ok (.aload_n 0, 1) := by decide +kernel
theorem dX2_takenBy_60 : decode cX2_takenBy 60 = .ok (.getfield 40, 3) := by decide +kernel
theorem dX2_takenBy_63 : decode cX2_takenBy 63 = .ok (.ifCond .eq 16, 3) := by decide +kernel
theorem dX2_takenBy_66 : decode cX2_takenBy 66 = .ok (.aload_n 1, 1) := by decide +kernel
theorem dX2_takenBy_67 : decode cX2_takenBy 67 = .ok (.aload_n 0, 1) := by decide +kernel
theorem dX2_takenBy_68 : decode cX2_takenBy 68 = .ok (.getfield 9, 3) := by decide +kernel
theorem dX2_takenBy_71 : decode cX2_takenBy 71 = .ok (.invokevirtual 112, 3) := by decide +kernel
theorem dX2_takenBy_74 : decode cX2_takenBy 74 = .ok (.iconst 2, 1) := by decide +kernel
theorem dX2_takenBy_75 : decode cX2_takenBy 75 = .ok (.idiv, 1) := by decide +kernel
theorem dX2_takenBy_76 : decode cX2_takenBy 76 = .ok (.goto 11, 3) := by decide +kernel
theorem dX2_takenBy_79 : decode cX2_takenBy 79 = .ok (.aload_n 1, 1) := by decide +kernel
theorem dX2_takenBy_80 : decode cX2_takenBy 80 = .ok (.aload_n 0, 1) := by decide +kernel
theorem dX2_takenBy_81 : decode cX2_takenBy 81 = .ok (.getfield 9, 3) := by decide +kernel
theorem dX2_takenBy_84 : decode cX2_takenBy 84 = .ok (.invokevirtual 112, 3) := by decide +kernel
theorem dX2_takenBy_87 : decode cX2_takenBy 87 = .ok (.ireturn, 1) := by decide +kernel
theorem dX2_takenBy_88 : decode cX2_takenBy 88 = .ok (.aload_n 0, 1) := by decide +kernel
theorem dX2_takenBy_89 : decode cX2_takenBy 89 = .ok (.getfield 93, 3) := by decide +kernel
theorem dX2_takenBy_92 : decode cX2_takenBy 92 = .ok (.bipush 100, 2) := by decide +kernel
theorem dX2_takenBy_94 : decode cX2_takenBy 94 = .ok (.if_icmp .lt 14, 3) := by decide +kernel
theorem dX2_takenBy_97 : decode cX2_takenBy 97 = .ok (.aload_n 1, 1) := by decide +kernel
theorem dX2_takenBy_98 : decode cX2_takenBy 98 = .ok (.aload_n 0, 1) := by decide +kernel
theorem dX2_takenBy_99 : decode cX2_takenBy 99 = .ok (.getfield 9, 3) := by decide +kernel
theorem dX2_takenBy_102 : decode cX2_takenBy 102 = .ok (.invokevirtual 112, 3) := by decide +kernel
theorem dX2_takenBy_105 : decode cX2_takenBy 105 = .ok (.goto 4, 3) := by decide +kernel
theorem dX2_takenBy_108 : decode cX2_takenBy 108 = .ok (.iconst 0, 1) := by decide +kernel
theorem dX2_takenBy_109 : decode cX2_takenBy 109 = .ok (.ireturn, 1) := by decide +kernel
theorem dX2_takenBy_110 : decode cX2_takenBy 110 = .ok (.aload_n 0, 1) := by decide +kernel
theorem dX2_takenBy_111 : decode cX2_takenBy 111 = .ok (.getfield 86, 3) := by decide +kernel
theorem dX2_takenBy_114 : decode cX2_takenBy 114 = .ok (.bipush 10, 2) := by decide +kernel
theorem dX2_takenBy_116 : decode cX2_takenBy 116 = .ok (.bipush 9, 2) := by decide +kernel
theorem dX2_takenBy_118 : decode cX2_takenBy 118 = .ok (.aload_n 0, 1) := by decide +kernel
theorem dX2_takenBy_119 : decode cX2_takenBy 119 = .ok (.getfield 9, 3) := by decide +kernel
theorem dX2_takenBy_122 : decode cX2_takenBy 122 = .ok (.iconst 4, 1) := by decide +kernel
theorem dX2_takenBy_123 : decode cX2_takenBy 123 = .ok (.iaload, 1) := by decide +kernel
theorem dX2_takenBy_124 : decode cX2_takenBy 124 = .ok (.isub, 1) := by decide +kernel
theorem dX2_takenBy_125 : decode cX2_takenBy 125 = .ok (.imul, 1) := by decide +kernel
theorem dX2_takenBy_126 : decode cX2_takenBy 126 = .ok (.if_icmp .ge 14, 3) := by decide +kernel
theorem dX2_takenBy_129 : decode cX2_takenBy 129 = .ok (.aload_n 1, 1) := by decide +kernel
theorem dX2_takenBy_130 : decode cX2_takenBy 130 = .ok (.aload_n 0, 1) := by decide +kernel
theorem dX2_takenBy_131 : decode cX2_takenBy 131 = .ok (.getfield 9, 3) := by decide +kernel
theorem dX2_takenBy_134 : decode cX2_takenBy 134 = .ok (.invokevirtual 112, 3) := by decide +kernel
theorem dX2_takenBy_137 : decode cX2_takenBy 137 = .ok (.goto 4, 3) := by decide +kernel
theorem dX2_takenBy_140 : decode cX2_takenBy 140 = .ok (.iconst 0, 1) := by decide +kernel
theorem dX2_takenBy_141 : decode cX2_takenBy 141 = .ok (.ireturn, 1) := by decide +kernel
theorem dX2_takenBy_142 : decode cX2_takenBy 142 = .ok (.aload_n 1, 1) := by decide +kernel
theorem dX2_takenBy_143 : decode cX2_takenBy 143 = .ok (.aload_n 0, 1) := by decide +kernel
theorem dX2_takenBy_144 : decode cX2_takenBy 144 = .ok (.getfield 9, 3) := by decide +kernel
theorem dX2_takenBy_147 : decode cX2_takenBy 147 = .ok (.invokevirtual 112, 3) := by decide +kernel
theorem dX2_takenBy_150 : decode cX2_takenBy 150 = .ok (.bipush 9, 2) := by decide +kernel
theorem dX2_takenBy_152 : decode cX2_takenBy 152 = .ok (.aload_n 0, 1) := by decide +kernel
theorem dX2_takenBy_153 : decode cX2_takenBy 153 = .ok (.getfield 9, 3) := by decide +kernel
theorem dX2_takenBy_156 : decode cX2_takenBy 156 = .ok (.bipush 6, 2) := by decide +kernel
theorem dX2_takenBy_158 : decode cX2_takenBy 158 = .ok (.iaload, 1) := by decide +kernel
theorem dX2_takenBy_159 : decode cX2_takenBy 159 = .ok (.isub, 1) := by decide +kernel
theorem dX2_takenBy_160 : decode cX2_takenBy 160 = .ok (.imul, 1) := by decide +kernel
theorem dX2_takenBy_161 : decode cX2_takenBy 161 = .ok (.bipush 9, 2) := by decide +kernel
theorem dX2_takenBy_163 : decode cX2_takenBy 163 = .ok (.idiv, 1) := by decide +kernel
theorem dX2_takenBy_164 : decode cX2_takenBy 164 = .ok (.ireturn, 1) := by decide +kernel
theorem dX2_takenBy_165 : decode cX2_takenBy 165 = .ok (.aload_n 0, 1) := by decide +kernel
theorem dX2_takenBy_166 : decode cX2_takenBy 166 = .ok (.getfield 48, 3) := by decide +kernel
theorem dX2_takenBy_169 : decode cX2_takenBy 169 = .ok (.aload_n 1, 1) := by decide +kernel
theorem dX2_takenBy_170 : decode cX2_takenBy 170 = .ok (.getfield 126, 3) := by decide +kernel
theorem dX2_takenBy_173 : decode cX2_takenBy 173 = .ok (.if_icmp .lt 25, 3) := by decide +kernel
theorem dX2_takenBy_176 : decode cX2_takenBy 176 = .ok (.aload_n 0, 1) := by decide +kernel
theorem dX2_takenBy_177 : decode cX2_takenBy 177 = .ok (.getfield 48, 3) := by decide +kernel
theorem dX2_takenBy_180 : decode cX2_takenBy 180 = .ok (.aload_n 1, 1) := by decide +kernel
theorem dX2_takenBy_181 : decode cX2_takenBy 181 = .ok (.getfield 129, 3) := by decide +kernel
theorem dX2_takenBy_184 : decode cX2_takenBy 184 = .ok (.if_icmp .gt 14, 3) := by decide +kernel
theorem dX2_takenBy_187 : decode cX2_takenBy 187 = .ok (.aload_n 1, 1) := by decide +kernel
theorem dX2_takenBy_188 : decode cX2_takenBy 188 = .ok (.aload_n 0, 1) := by decide +kernel
theorem dX2_takenBy_189 : decode cX2_takenBy 189 = .ok (.getfield 9, 3) := by decide +kernel
theorem dX2_takenBy_192 : decode cX2_takenBy 192 = .ok (.invokevirtual 112, 3) := by decide +kernel
theorem dX2_takenBy_195 : decode cX2_takenBy 195 = .ok (.goto 4, 3) := by decide +kernel
theorem dX2_takenBy_198 : decode cX2_takenBy 198 = .ok (.iconst 0, 1) := by decide +kernel
theorem dX2_takenBy_199 : decode cX2_takenBy 199 = .ok (.ireturn, 1) := by decide +kernel
theorem dX2_takenBy_200 : decode cX2_takenBy 200 = .ok (.aload_n 1, 1) := by decide +kernel
theorem dX2_takenBy_201 : decode cX2_takenBy 201 = .ok (.aload_n 0, 1) := by decide +kernel
theorem dX2_takenBy_202 : decode cX2_takenBy 202 = .ok (.getfield 9, 3) := by decide +kernel
theorem dX2_takenBy_205 : decode cX2_takenBy 205 = .ok (.invokevirtual 112, 3) := by decide +kernel
theorem dX2_takenBy_208 : decode cX2_takenBy 208 = .ok (.ireturn, 1) := by decide +kernel
theorem dX2_ruler_0 : decode cX2_ruler 0 = .ok (.bipush (-9), 2) := by decide +kernel
theorem dX2_ruler_2 : decode cX2_ruler 2 = .ok (.istore_n 1, 1) := by decide +kernel
theorem dX2_ruler_3 : decode cX2_ruler 3 = .ok (.iconst 0, 1) := by decide +kernel
theorem dX2_ruler_4 : decode cX2_ruler 4 = .ok (.istore_n 2, 1) := by decide +kernel
theorem dX2_ruler_5 : decode cX2_ruler 5 = .ok (.iconst 0, 1) := by decide +kernel
theorem dX2_ruler_6 : decode cX2_ruler 6 = .ok (.istore_n 3, 1) := by decide +kernel
theorem dX2_ruler_7 : decode cX2_ruler 7 = .ok (.iload_n 3, 1) := by decide +kernel
theorem dX2_ruler_8 : decode cX2_ruler 8 = .ok (.bipush 8, 2) := by decide +kernel
theorem dX2_ruler_10 : decode cX2_ruler 10 = .ok (.if_icmp .ge 28, 3) := by decide +kernel
theorem dX2_ruler_13 : decode cX2_ruler 13 = .ok (.aload_n 0, 1) := by decide +kernel
theorem dX2_ruler_14 : decode cX2_ruler 14 = .ok (.getfield 15, 3) := by decide +kernel
theorem dX2_ruler_17 : decode cX2_ruler 17 = .ok (.iload_n 3, 1) := by decide +kernel
theorem dX2_ruler_18 : decode cX2_ruler 18 = .ok (.iaload, 1) := by decide +kernel
theorem dX2_ruler_19 : decode cX2_ruler 19 = .ok (.iload_n 2, 1) := by decide +kernel
theorem dX2_ruler_20 : decode cX2_ruler 20 = .ok (.if_icmp .le 12, 3) := by decide +kernel
theorem dX2_ruler_23 : decode cX2_ruler 23 = .ok (.aload_n 0, 1) := by decide +kernel
theorem dX2_ruler_24 : decode cX2_ruler 24 = .ok (.getfield 15, 3) := by decide +kernel
theorem dX2_ruler_27 : decode cX2_ruler 27 = .ok (.iload_n 3, 1) := by decide +kernel
theorem dX2_ruler_28 : decode cX2_ruler 28 = .ok (.iaload, 1) := by decide +kernel
theorem dX2_ruler_29 : decode cX2_ruler 29 = .ok (.istore_n 2, 1) := by decide +kernel
theorem dX2_ruler_30 : decode cX2_ruler 30 = .ok (.iload_n 3, 1) := by decide +kernel
theorem dX2_ruler_31 : decode cX2_ruler 31 = .ok (.istore_n 1, 1) := by decide +kernel
theorem dX2_ruler_32 : decode cX2_ruler 32 = .ok (.iinc 3 1, 3) := by decide +kernel
theorem dX2_ruler_35 : decode cX2_ruler 35 = .ok (.goto (-28), 3) := by decide +kernel
theorem dX2_ruler_38 : decode cX2_ruler 38 = .ok (.iload_n 1, 1) := by decide +kernel
theorem dX2_ruler_39 : decode cX2_ruler 39 = .ok (.ireturn, 1) := by decide +kernel
theorem dX2_offAt_0 : decode cX2_offAt 0 = .ok (.iload_n 1, 1) := by decide +kernel
theorem dX2_offAt_1 : decode cX2_offAt 1 = .ok (.bipush 10, 2) := by decide +kernel
theorem dX2_offAt_3 : decode cX2_offAt 3 = .ok (.imul, 1) := by decide +kernel
theorem dX2_offAt_4 : decode cX2_offAt 4 = .ok (.istore_n 2, 1) := by decide +kernel
theorem dX2_offAt_5 : decode cX2_offAt 5 = .ok (.aload_n 0, 1) := by decide +kernel
theorem dX2_offAt_6 : decode cX2_offAt 6 = .ok (.iload_n 2, 1) := by decide +kernel
theorem dX2_offAt_7 : decode cX2_offAt 7 = .ok (.invokevirtual 132, 3) := by decide +kernel
theorem dX2_offAt_10 : decode cX2_offAt 10 = .ok (.aload_n 0, 1) := by decide +kernel
theorem dX2_offAt_11 : decode cX2_offAt 11 = .ok (.getfield 48, 3) := by decide +kernel
theorem dX2_offAt_14 : decode cX2_offAt 14 = .ok (.iload_n 2, 1) := by decide +kernel
theorem dX2_offAt_15 : decode cX2_offAt 15 = .ok (.if_icmp .ne 25, 3) := by decide +kernel
theorem dX2_offAt_18 : decode cX2_offAt 18 = .ok (.aload_n 0, 1) := by decide +kernel
theorem dX2_offAt_19 : decode cX2_offAt 19 = .ok (.getfield 18, 3) := by decide +kernel
theorem dX2_offAt_22 : decode cX2_offAt 22 = .ok (.getfield 135, 3) := by decide +kernel
theorem dX2_offAt_25 : decode cX2_offAt 25 = .ok (.iload_n 1, 1) := by decide +kernel
theorem dX2_offAt_26 : decode cX2_offAt 26 = .ok (.invokevirtual 139, 3) := by decide +kernel
theorem dX2_offAt_29 : decode cX2_offAt 29 = .ok (.aload_n 0, 1) := by decide +kernel
theorem dX2_offAt_30 : decode cX2_offAt 30 = .ok (.getfield 93, 3) := by decide +kernel
theorem dX2_offAt_33 : decode cX2_offAt 33 = .ok (.isub, 1) := by decide +kernel
theorem dX2_offAt_34 : decode cX2_offAt 34 = .ok (.invokestatic 145, 3) := by decide +kernel
theorem dX2_offAt_37 : decode cX2_offAt 37 = .ok (.goto 5, 3) := by decide +kernel
theorem dX2_offAt_40 : decode cX2_offAt 40 = .ok (.ldc 148, 2) := by decide +kernel
theorem dX2_offAt_42 : decode cX2_offAt 42 = .ok (.ireturn, 1) := by decide +kernel
theorem dX3_init_0 : decode cX3_init 0 = .ok (.aload_n 0, 1) := by decide +kernel
theorem dX3_init_1 : decode cX3_init 1 = .ok (.invokespecial 1, 3) := by decide +kernel
theorem dX3_init_4 : decode cX3_init 4 = .ok (.aload_n 0, 1) := by decide +kernel
theorem dX3_init_5 : decode cX3_init 5 = .ok (.iload_n 1, 1) := by decide +kernel
theorem dX3_init_6 : decode cX3_init 6 = .ok (.putfield 7, 3) := by decide +kernel
theorem dX3_init_9 : decode cX3_init 9 = .ok (.aload_n 0, 1) := by decide +kernel
theorem dX3_init_10 : decode cX3_init 10 = .ok (.iload_n 2, 1) := by decide +kernel
theorem dX3_init_11 : decode cX3_init 11 = .ok (.putfield 13, 3) := by decide +kernel
theorem dX3_init_14 : decode cX3_init 14 = .ok (.aload_n 0, 1) := by decide +kernel
theorem dX3_init_15 : decode cX3_init 15 = .ok (.iload_n 3, 1) := by decide +kernel
theorem dX3_init_16 : decode cX3_init 16 = .ok (.putfield 16, 3) := by decide +kernel
theorem dX3_init_19 : decode cX3_init 19 = .ok (.aload_n 0, 1) := by decide +kernel
theorem dX3_init_20 : decode cX3_init 20 = .ok (.iload 4, 2) := by decide +kernel
theorem dX3_init_22 : decode cX3_init 22 = .ok (.putfield 19, 3) := by decide +kernel
theorem dX3_init_25 : decode cX3_init 25 = .ok (.aload_n 0, 1) := by decide +kernel
theorem dX3_init_26 : decode cX3_init 26 = .ok (.iload 5, 2) := by decide +kernel
theorem dX3_init_28 : decode cX3_init 28 = .ok (.putfield 22, 3) := by decide +kernel
theorem dX3_init_31 : decode cX3_init 31 = .ok (.return_, 1) := by decide +kernel
theorem dX4_init_0 : decode cX4_init 0 = .ok (.aload_n 0, 1) := by decide +kernel
theorem dX4_init_1 : decode cX4_init 1 = .ok (.invokespecial 3, 3) := by decide +kernel
theorem dX4_init_4 : decode cX4_init 4 = .ok (.aload_n 0, 1) := by decide +kernel
theorem dX4_init_5 : decode cX4_init 5 = .ok (.bipush 24, 2) := by decide +kernel
theorem dX4_init_7 : decode cX4_init 7 = .ok (.newarray .int, 2) := by decide +kernel
theorem dX4_init_9 : decode cX4_init 9 = .ok (.putfield 9, 3) := by decide +kernel
theorem dX4_init_12 : decode cX4_init 12 = .ok (.return_, 1) := by decide +kernel
theorem dX4_append_0 : decode cX4_append 0 = .ok (.aload_n 0, 1) := by decide +kernel
theorem dX4_append_1 : decode cX4_append 1 = .ok (.getfield 15, 3) := by decide +kernel
theorem dX4_append_4 : decode cX4_append 4 = .ok (.ifCond .lt 35, 3) := by decide +kernel
theorem dX4_append_7 : decode cX4_append 7 = .ok (.aload_n 0, 1) := by decide +kernel
theorem dX4_append_8 : decode cX4_append 8 = .ok (.getfield 15, 3) := by decide +kernel
theorem dX4_append_11 : decode cX4_append 11 = .ok (.aload_n 0, 1) := by decide +kernel
theorem dX4_append_12 : decode cX4_append 12 = .ok (.getfield 9, 3) := by decide +kernel
theorem dX4_append_15 : decode cX4_append 15 = .ok (.arraylength, 1) := by decide +kernel
theorem dX4_append_16 : decode cX4_append 16 = .ok (.if_icmp .ge 23, 3) := by decide +kernel
theorem dX4_append_19 : decode cX4_append 19 = .ok (.aload_n 0, 1) := by decide +kernel
theorem dX4_append_20 : decode cX4_append 20 = .ok (.getfield 9, 3) := by decide +kernel
theorem dX4_append_23 : decode cX4_append 23 = .ok (.aload_n 0, 1) := by decide +kernel
theorem dX4_append_24 : decode cX4_append 24 = .ok (.getfield 15, 3) := by decide +kernel
theorem dX4_append_27 : decode cX4_append 27 = .ok (.iload_n 1, 1) := by decide +kernel
theorem dX4_append_28 : decode cX4_append 28 = .ok (.iastore, 1) := by decide +kernel
theorem dX4_append_29 : decode cX4_append 29 = .ok (.aload_n 0, 1) := by decide +kernel
theorem dX4_append_30 : decode cX4_append 30 = .ok (.dup, 1) := by decide +kernel
theorem dX4_append_31 : decode cX4_append 31 = .ok (.getfield 15, 3) := by decide +kernel
theorem dX4_append_34 : decode cX4_append 34 = .ok (.iconst 1, 1) := by decide +kernel
theorem dX4_append_35 : decode cX4_append 35 = .ok (.iadd, 1) := by decide +kernel
theorem dX4_append_36 : decode cX4_append 36 = .ok (.putfield 15, 3) := by decide +kernel
theorem dX4_append_39 : decode cX4_append 39 = .ok (.aload_n 0, 1) := by decide +kernel
theorem dX4_append_40 : decode cX4_append 40 = .ok (.getfield 15, 3) := by decide +kernel
theorem dX4_append_43 : decode cX4_append 43 = .ok (.ireturn, 1) := by decide +kernel
theorem dX4_toneOfTenth_0 : decode cX4_toneOfTenth 0 = .ok (.iload_n 1, 1) := by decide +kernel
theorem dX4_toneOfTenth_1 : decode cX4_toneOfTenth 1 = .ok (.ifCond .lt 29, 3) := by decide +kernel
theorem dX4_toneOfTenth_4 : decode cX4_toneOfTenth 4 = .ok (.iload_n 1, 1) := by decide +kernel
theorem dX4_toneOfTenth_5 : decode cX4_toneOfTenth 5 = .ok (.aload_n 0, 1) := by decide +kernel
theorem dX4_toneOfTenth_6 : decode cX4_toneOfTenth 6 = .ok (.getfield 15, 3) := by decide +kernel
theorem dX4_toneOfTenth_9 : decode cX4_toneOfTenth 9 = .ok (.if_icmp .ge 21, 3) := by decide +kernel
theorem dX4_toneOfTenth_12 : decode cX4_toneOfTenth 12 = .ok (.iload_n 1, 1) := by decide +kernel
theorem dX4_toneOfTenth_13 : decode cX4_toneOfTenth 13 = .ok (.aload_n 0, 1) := by decide +kernel
theorem dX4_toneOfTenth_14 : decode cX4_toneOfTenth 14 = .ok (.getfield 9, 3) := by decide +kernel
theorem dX4_toneOfTenth_17 : decode cX4_toneOfTenth 17 = .ok (.arraylength, 1) := by decide +kernel
theorem dX4_toneOfTenth_18 : decode cX4_toneOfTenth 18 = .ok (.if_icmp .ge 12, 3) := by decide +kernel
theorem dX4_toneOfTenth_21 : decode cX4_toneOfTenth 21 = .ok (.aload_n 0, 1) := by decide +kernel
theorem dX4_toneOfTenth_22 : decode cX4_toneOfTenth 22 = .ok (.getfield 9, 3) := by decide +kernel
theorem dX4_toneOfTenth_25 : decode cX4_toneOfTenth 25 = .ok (.iload_n 1, 1) := by decide +kernel
theorem dX4_toneOfTenth_26 : decode cX4_toneOfTenth 26 = .ok (.iaload, 1) := by decide +kernel
theorem dX4_toneOfTenth_27 : decode cX4_toneOfTenth 27 = .ok (.goto 4, 3) := by decide +kernel
theorem dX4_toneOfTenth_30 : decode cX4_toneOfTenth 30 = .ok (.iconst (-1), 1) := by decide +kernel
theorem dX4_toneOfTenth_31 : decode cX4_toneOfTenth 31 = .ok (.ireturn, 1) := by decide +kernel
theorem dX4_isHeard_0 : decode cX4_isHeard 0 = .ok (.aload_n 0, 1) := by decide +kernel
theorem dX4_isHeard_1 : decode cX4_isHeard 1 = .ok (.iload_n 1, 1) := by decide +kernel
theorem dX4_isHeard_2 : decode cX4_isHeard 2 = .ok (.invokevirtual 19, 3) := by decide +kernel
theorem dX4_isHeard_5 : decode cX4_isHeard 5 = .ok (.iconst (-1), 1) := by decide +kernel
theorem dX4_isHeard_6 : decode cX4_isHeard 6 = .ok (.if_icmp .eq 7, 3) := by decide +kernel
theorem dX4_isHeard_9 : decode cX4_isHeard 9 = .ok (.iconst 1, 1) := by decide +kernel
theorem dX4_isHeard_10 : decode cX4_isHeard 10 = .ok (.goto 4, 3) := by decide +kernel
theorem dX4_isHeard_13 : decode cX4_isHeard 13 = .ok (.iconst 0, 1) := by decide +kernel
theorem dX4_isHeard_14 : decode cX4_isHeard 14 = .ok (.ireturn, 1) := by decide +kernel
theorem dX4_heardOnes_0 : decode cX4_heardOnes 0 = .ok (.iconst 0, 1) := by decide +kernel
theorem dX4_heardOnes_1 : decode cX4_heardOnes 1 = .ok (.istore_n 1, 1) := by decide +kernel
theorem dX4_heardOnes_2 : decode cX4_heardOnes 2 = .ok (.iconst 0, 1) := by decide +kernel
theorem dX4_heardOnes_3 : decode cX4_heardOnes 3 = .ok (.istore_n 2, 1) := by decide +kernel
theorem dX4_heardOnes_4 : decode cX4_heardOnes 4 = .ok (.iload_n 2, 1) := by decide +kernel
theorem dX4_heardOnes_5 : decode cX4_heardOnes 5 = .ok (.aload_n 0, 1) := by decide +kernel
theorem dX4_heardOnes_6 : decode cX4_heardOnes 6 = .ok (.getfield 15, 3) := by decide +kernel
theorem dX4_heardOnes_9 : decode cX4_heardOnes 9 = .ok (.if_icmp .ge 20, 3) := by decide +kernel
theorem dX4_heardOnes_12 : decode cX4_heardOnes 12 = .ok (.aload_n 0, 1) := by decide +kernel
theorem dX4_heardOnes_13 : decode cX4_heardOnes 13 = .ok (.iload_n 2, 1) := by decide +kernel
theorem dX4_heardOnes_14 : decode cX4_heardOnes 14 = .ok (.invokevirtual 23, 3) := by decide +kernel
theorem dX4_heardOnes_17 : decode cX4_heardOnes 17 = .ok (.ifCond .eq 6, 3) := by decide +kernel
theorem dX4_heardOnes_20 : decode cX4_heardOnes 20 = .ok (.iinc 1 1, 3) := by decide +kernel
theorem dX4_heardOnes_23 : decode cX4_heardOnes 23 = .ok (.iinc 2 1, 3) := by decide +kernel
theorem dX4_heardOnes_26 : decode cX4_heardOnes 26 = .ok (.goto (-22), 3) := by decide +kernel
theorem dX4_heardOnes_29 : decode cX4_heardOnes 29 = .ok (.iload_n 1, 1) := by decide +kernel
theorem dX4_heardOnes_30 : decode cX4_heardOnes 30 = .ok (.ireturn, 1) := by decide +kernel
theorem dX4_copyFrom_0 : decode cX4_copyFrom 0 = .ok (.aload_n 1, 1) := by decide +kernel
theorem dX4_copyFrom_1 : decode cX4_copyFrom 1 = .ok (.getfield 9, 3) := by decide +kernel
theorem dX4_copyFrom_4 : decode cX4_copyFrom 4 = .ok (.iconst 0, 1) := by decide +kernel
theorem dX4_copyFrom_5 : decode cX4_copyFrom 5 = .ok (.aload_n 0, 1) := by decide +kernel
theorem dX4_copyFrom_6 : decode cX4_copyFrom 6 = .ok (.getfield 9, 3) := by decide +kernel
theorem dX4_copyFrom_9 : decode cX4_copyFrom 9 = .ok (.iconst 0, 1) := by decide +kernel
theorem dX4_copyFrom_10 : decode cX4_copyFrom 10 = .ok (.bipush 24, 2) := by decide +kernel
theorem dX4_copyFrom_12 : decode cX4_copyFrom 12 = .ok (.invokestatic 27, 3) := by decide +kernel
theorem dX4_copyFrom_15 : decode cX4_copyFrom 15 = .ok (.aload_n 0, 1) := by decide +kernel
theorem dX4_copyFrom_16 : decode cX4_copyFrom 16 = .ok (.aload_n 1, 1) := by decide +kernel
theorem dX4_copyFrom_17 : decode cX4_copyFrom 17 = .ok (.getfield 15, 3) := by decide +kernel
theorem dX4_copyFrom_20 : decode cX4_copyFrom 20 = .ok (.putfield 15, 3) := by decide +kernel
theorem dX4_copyFrom_23 : decode cX4_copyFrom 23 = .ok (.aload_n 0, 1) := by decide +kernel
theorem dX4_copyFrom_24 : decode cX4_copyFrom 24 = .ok (.aload_n 1, 1) := by decide +kernel
theorem dX4_copyFrom_25 : decode cX4_copyFrom 25 = .ok (.getfield 33, 3) := by decide +kernel
theorem dX4_copyFrom_28 : decode cX4_copyFrom 28 = .ok (.putfield 33, 3) := by decide +kernel
theorem dX4_copyFrom_31 : decode cX4_copyFrom 31 = .ok (.return_, 1) := by decide +kernel
theorem dX5_init_0 : decode cX5_init 0 = .ok (.aload_n 0, 1) := by decide +kernel
theorem dX5_init_1 : decode cX5_init 1 = .ok (.invokespecial 3, 3) := by decide +kernel
theorem dX5_init_4 : decode cX5_init 4 = .ok (.aload_n 0, 1) := by decide +kernel
theorem dX5_init_5 : decode cX5_init 5 = .ok (.bipush 8, 2) := by decide +kernel
theorem dX5_init_7 : decode cX5_init 7 = .ok (.newarray .int, 2) := by decide +kernel
theorem dX5_init_9 : decode cX5_init 9 = .ok (.putfield 9, 3) := by decide +kernel
theorem dX5_init_12 : decode cX5_init 12 = .ok (.aload_n 0, 1) := by decide +kernel
theorem dX5_init_13 : decode cX5_init 13 = .ok (.bipush 100, 2) := by decide +kernel
theorem dX5_init_15 : decode cX5_init 15 = .ok (.newarray .int, 2) := by decide +kernel
theorem dX5_init_17 : decode cX5_init 17 = .ok (.putfield 15, 3) := by decide +kernel
theorem dX5_init_20 : decode cX5_init 20 = .ok (.aload_n 0, 1) := by decide +kernel
theorem dX5_init_21 : decode cX5_init 21 = .ok (.bipush 100, 2) := by decide +kernel
theorem dX5_init_23 : decode cX5_init 23 = .ok (.newarray .int, 2) := by decide +kernel
theorem dX5_init_25 : decode cX5_init 25 = .ok (.putfield 18, 3) := by decide +kernel
theorem dX5_init_28 : decode cX5_init 28 = .ok (.return_, 1) := by decide +kernel
theorem dX5_start_0 : decode cX5_start 0 = .ok (.aload_n 0, 1) := by decide +kernel
theorem dX5_start_1 : decode cX5_start 1 = .ok (.iconst 1, 1) := by decide +kernel
theorem dX5_start_2 : decode cX5_start 2 = .ok (.putfield 21, 3) := by decide +kernel
theorem dX5_start_5 : decode cX5_start 5 = .ok (.aload_n 0, 1) := by decide +kernel
theorem dX5_start_6 : decode cX5_start 6 = .ok (.iload_n 1, 1) := by decide +kernel
theorem dX5_start_7 : decode cX5_start 7 = .ok (.putfield 25, 3) := by decide +kernel
theorem dX5_start_10 : decode cX5_start 10 = .ok (.aload_n 0, 1) := by decide +kernel
theorem dX5_start_11 : decode cX5_start 11 = .ok (.iload_n 2, 1) := by decide +kernel
theorem dX5_start_12 : decode cX5_start 12 = .ok (.putfield 29, 3) := by decide +kernel
theorem dX5_start_15 : decode cX5_start 15 = .ok (.aload_n 0, 1) := by decide +kernel
theorem dX5_start_16 : decode cX5_start 16 = .ok (.iload_n 3, 1) := by decide +kernel
theorem dX5_start_17 : decode cX5_start 17 = .ok (.putfield 32, 3) := by decide +kernel
theorem dX5_start_20 : decode cX5_start 20 = .ok (.aload_n 0, 1) := by decide +kernel
theorem dX5_start_21 : decode cX5_start 21 = .ok (.iload_n 2, 1) := by decide +kernel
theorem dX5_start_22 : decode cX5_start 22 = .ok (.putfield 35, 3) := by decide +kernel
theorem dX5_start_25 : decode cX5_start 25 = .ok (.aload_n 0, 1) := by decide +kernel
theorem dX5_start_26 : decode cX5_start 26 = .ok (.iload 4, 2) := by decide +kernel
theorem dX5_start_28 : decode cX5_start 28 = .ok (.putfield 38, 3) := by decide +kernel
theorem dX5_start_31 : decode cX5_start 31 = .ok (.aload_n 0, 1) := by decide +kernel
theorem dX5_start_32 : decode cX5_start 32 = .ok (.iconst 0, 1) := by decide +kernel
theorem dX5_start_33 : decode cX5_start 33 = .ok (.putfield 41, 3) := by decide +kernel
theorem dX5_start_36 : decode cX5_start 36 = .ok (.aload_n 0, 1) := by decide +kernel
theorem dX5_start_37 : decode cX5_start 37 = .ok (.iconst 0, 1) := by decide +kernel
theorem dX5_start_38 : decode cX5_start 38 = .ok (.putfield 44, 3) := by decide +kernel
theorem dX5_start_41 : decode cX5_start 41 = .ok (.aload_n 0, 1) := by decide +kernel
theorem dX5_start_42 : decode cX5_start 42 = .ok (.lconst 0, 1) := by decide +kernel
theorem dX5_start_43 : decode cX5_start 43 = .ok (.putfield 47, 3) := by decide +kernel
theorem dX5_start_46 : decode cX5_start 46 = .ok (.aload_n 0, 1) := by decide +kernel
theorem dX5_start_47 : decode cX5_start 47 = .ok (.getfield 9, 3) := by decide +kernel
theorem dX5_start_50 : decode cX5_start 50 = .ok (.iconst 0, 1) := by decide +kernel
theorem dX5_start_51 : decode cX5_start 51 = .ok (.invokestatic 51, 3) := by decide +kernel
theorem dX5_start_54 : decode cX5_start 54 = .ok (.aload_n 0, 1) := by decide +kernel
theorem dX5_start_55 : decode cX5_start 55 = .ok (.iconst 0, 1) := by decide +kernel
theorem dX5_start_56 : decode cX5_start 56 = .ok (.putfield 57, 3) := by decide +kernel
theorem dX5_start_59 : decode cX5_start 59 = .ok (.aload_n 0, 1) := by decide +kernel
theorem dX5_start_60 : decode cX5_start 60 = .ok (.invokevirtual 60, 3) := by decide +kernel
theorem dX5_start_63 : decode cX5_start 63 = .ok (.return_, 1) := by decide +kernel
theorem dX5_follow_0 : decode cX5_follow 0 = .ok (.aload_n 0, 1) := by decide +kernel
theorem dX5_follow_1 : decode cX5_follow 1 = .ok (.dup, 1) := by decide +kernel
theorem dX5_follow_2 : decode cX5_follow 2 = .ok (.getfield 47, 3) := by decide +kernel
theorem dX5_follow_5 : decode cX5_follow 5 = .ok (.aload_n 0, 1) := by decide +kernel
theorem dX5_follow_6 : decode cX5_follow 6 = .ok (.getfield 38, 3) := by decide +kernel
theorem dX5_follow_9 : decode cX5_follow 9 = .ok (.i2l, 1) := by decide +kernel
theorem dX5_follow_10 : decode cX5_follow 10 = .ok (.ladd, 1) := by decide +kernel
theorem dX5_follow_11 : decode cX5_follow 11 = .ok (.putfield 47, 3) := by decide +kernel
theorem dX5_follow_14 : decode cX5_follow 14 = .ok (.aload_n 0, 1) := by decide +kernel
theorem dX5_follow_15 : decode cX5_follow 15 = .ok (.aload_n 1, 1) := by decide +kernel
theorem dX5_follow_16 : decode cX5_follow 16 = .ok (.getfield 63, 3) := by decide +kernel
theorem dX5_follow_19 : decode cX5_follow 19 = .ok (.invokevirtual 68, 3) := by decide +kernel
theorem dX5_follow_22 : decode cX5_follow 22 = .ok (.aload_n 0, 1) := by decide +kernel
theorem dX5_follow_23 : decode cX5_follow 23 = .ok (.aload_n 1, 1) := by decide +kernel
theorem dX5_follow_24 : decode cX5_follow 24 = .ok (.getfield 72, 3) := by decide +kernel
theorem dX5_follow_27 : decode cX5_follow 27 = .ok (.putfield 35, 3) := by decide +kernel
theorem dX5_follow_30 : decode cX5_follow 30 = .ok (.aload_n 0, 1) := by decide +kernel
theorem dX5_follow_31 : decode cX5_follow 31 = .ok (.aload_n 1, 1) := by decide +kernel
theorem dX5_follow_32 : decode cX5_follow 32 = .ok (.getfield 73, 3) := by decide +kernel
theorem dX5_follow_35 : decode cX5_follow 35 = .ok (.putfield 38, 3) := by decide +kernel
theorem dX5_follow_38 : decode cX5_follow 38 = .ok (.aload_n 0, 1) := by decide +kernel
theorem dX5_follow_39 : decode cX5_follow 39 = .ok (.aload_n 1, 1) := by decide +kernel
theorem dX5_follow_40 : decode cX5_follow 40 = .ok (.getfield 74, 3) := by decide +kernel
theorem dX5_follow_43 : decode cX5_follow 43 = .ok (.putfield 41, 3) := by decide +kernel
theorem dX5_follow_46 : decode cX5_follow 46 = .ok (.aload_n 0, 1) := by decide +kernel
theorem dX5_follow_47 : decode cX5_follow 47 = .ok (.aload_n 1, 1) := by decide +kernel
theorem dX5_follow_48 : decode cX5_follow 48 = .ok (.getfield 75, 3) := by decide +kernel
theorem dX5_follow_51 : decode cX5_follow 51 = .ok (.putfield 44, 3) := by decide +kernel
theorem dX5_follow_54 : decode cX5_follow 54 = .ok (.aload_n 0, 1) := by decide +kernel
theorem dX5_follow_55 : decode cX5_follow 55 = .ok (.getfield 41, 3) := by decide +kernel
theorem dX5_follow_58 : decode cX5_follow 58 = .ok (.bipush 10, 2) := by decide +kernel
theorem dX5_follow_60 : decode cX5_follow 60 = .ok (.irem, 1) := by decide +kernel
theorem dX5_follow_61 : decode cX5_follow 61 = .ok (.ifCond .ne 7, 3) := by decide +kernel
theorem dX5_follow_64 : decode cX5_follow 64 = .ok (.aload_n 0, 1) := by decide +kernel
theorem dX5_follow_65 : decode cX5_follow 65 = .ok (.invokevirtual 60, 3) := by decide +kernel
theorem dX5_follow_68 : decode cX5_follow 68 = .ok (.return_, 1) := by decide +kernel
theorem dX5_countParts_0 : decode cX5_countParts 0 = .ok (.aload_n 0, 1) := by decide +kernel
theorem dX5_countParts_1 : decode cX5_countParts 1 = .ok (.getfield 35, 3) := by decide +kernel
theorem dX5_countParts_4 : decode cX5_countParts 4 = .ok (.istore_n 2, 1) := by decide +kernel
theorem dX5_countParts_5 : decode cX5_countParts 5 = .ok (.iconst 0, 1) := by decide +kernel
theorem dX5_countParts_6 : decode cX5_countParts 6 = .ok (.istore_n 3, 1) := by decide +kernel
theorem dX5_countParts_7 : decode cX5_countParts 7 = .ok (.iload_n 3, 1) := by decide +kernel
theorem dX5_countParts_8 : decode cX5_countParts 8 = .ok (.aload_n 0, 1) := by decide +kernel
theorem dX5_countParts_9 : decode cX5_countParts 9 = .ok (.getfield 9, 3) := by decide +kernel
theorem dX5_countParts_12 : decode cX5_countParts 12 = .ok (.arraylength, 1) := by decide +kernel
theorem dX5_countParts_13 : decode cX5_countParts 13 = .ok (.if_icmp .ge 40, 3) := by decide +kernel
theorem dX5_countParts_16 : decode cX5_countParts 16 = .ok (.iload_n 3, 1) := by decide +kernel
theorem dX5_countParts_17 : decode cX5_countParts 17 = .ok (.aload_n 1, 1) := by decide +kernel
theorem dX5_countParts_18 : decode cX5_countParts 18 = .ok (.arraylength, 1) := by decide +kernel
theorem dX5_countParts_19 : decode cX5_countParts 19 = .ok (.if_icmp .ge 34, 3) := by decide +kernel
theorem dX5_countParts_22 : decode cX5_countParts 22 = .ok (.iload_n 2, 1) := by decide +kernel
theorem dX5_countParts_23 : decode cX5_countParts 23 = .ok (.aload_n 1, 1) := by decide +kernel
theorem dX5_countParts_24 : decode cX5_countParts 24 = .ok (.iload_n 3, 1) := by decide +kernel
theorem dX5_countParts_25 : decode cX5_countParts 25 = .ok (.iaload, 1) := by decide +kernel
theorem dX5_countParts_26 : decode cX5_countParts 26 = .ok (.invokestatic 76, 3) := by decide +kernel
theorem dX5_countParts_29 : decode cX5_countParts 29 = .ok (.istore 4, 2) := by decide +kernel
theorem dX5_countParts_31 : decode cX5_countParts 31 = .ok (.aload_n 0, 1) := by decide +kernel
theorem dX5_countParts_32 : decode cX5_countParts 32 = .ok (.getfield 9, 3) := by decide +kernel
theorem dX5_countParts_35 : decode cX5_countParts 35 = .ok (.iload_n 3, 1) := by decide +kernel
theorem dX5_countParts_36 : decode cX5_countParts 36 = .ok (.dup2, 1) := by decide +kernel
theorem dX5_countParts_37 : decode cX5_countParts 37 = .ok (.iaload, 1) := by decide +kernel
theorem dX5_countParts_38 : decode cX5_countParts 38 = .ok (.iload 4, 2) := by decide +kernel
theorem dX5_countParts_40 : decode cX5_countParts 40 = .ok (.iadd, 1) := by decide +kernel
theorem dX5_countParts_41 : decode cX5_countParts 41 = .ok (.iastore, 1) := by decide +kernel
theorem dX5_countParts_42 : decode cX5_countParts 42 = .ok (.iload_n 2, 1) := by decide +kernel
theorem dX5_countParts_43 : decode cX5_countParts 43 = .ok (.iload 4, 2) := by decide +kernel
theorem dX5_countParts_45 : decode cX5_countParts 45 = .ok (.isub, 1) := by decide +kernel
theorem dX5_countParts_46 : decode cX5_countParts 46 = .ok (.istore_n 2, 1) := by decide +kernel
theorem dX5_countParts_47 : decode cX5_countParts 47 = .ok (.iinc 3 1, 3) := by decide +kernel
theorem dX5_countParts_50 : decode cX5_countParts 50 = .ok (.goto (-43), 3) := by decide +kernel
theorem dX5_countParts_53 : decode cX5_countParts 53 = .ok (.return_, 1) := by decide +kernel
theorem dX5_keepTenth_0 : decode cX5_keepTenth 0 = .ok (.aload_n 0, 1) := by decide +kernel
theorem dX5_keepTenth_1 : decode cX5_keepTenth 1 = .ok (.getfield 57, 3) := by decide +kernel
theorem dX5_keepTenth_4 : decode cX5_keepTenth 4 = .ok (.ifCond .lt 48, 3) := by decide +kernel
theorem dX5_keepTenth_7 : decode cX5_keepTenth 7 = .ok (.aload_n 0, 1) := by decide +kernel
theorem dX5_keepTenth_8 : decode cX5_keepTenth 8 = .ok (.getfield 57, 3) := by decide +kernel
theorem dX5_keepTenth_11 : decode cX5_keepTenth 11 = .ok (.bipush 100, 2) := by decide +kernel
theorem dX5_keepTenth_13 : decode cX5_keepTenth 13 = .ok (.if_icmp .ge 39, 3) := by decide +kernel
theorem dX5_keepTenth_16 : decode cX5_keepTenth 16 = .ok (.aload_n 0, 1) := by decide +kernel
theorem dX5_keepTenth_17 : decode cX5_keepTenth 17 = .ok (.getfield 15, 3) := by decide +kernel
theorem dX5_keepTenth_20 : decode cX5_keepTenth 20 = .ok (.aload_n 0, 1) := by decide +kernel
theorem dX5_keepTenth_21 : decode cX5_keepTenth 21 = .ok (.getfield 57, 3) := by decide +kernel
theorem dX5_keepTenth_24 : decode cX5_keepTenth 24 = .ok (.aload_n 0, 1) := by decide +kernel
theorem dX5_keepTenth_25 : decode cX5_keepTenth 25 = .ok (.getfield 35, 3) := by decide +kernel
theorem dX5_keepTenth_28 : decode cX5_keepTenth 28 = .ok (.iastore, 1) := by decide +kernel
theorem dX5_keepTenth_29 : decode cX5_keepTenth 29 = .ok (.aload_n 0, 1) := by decide +kernel
theorem dX5_keepTenth_30 : decode cX5_keepTenth 30 = .ok (.getfield 18, 3) := by decide +kernel
theorem dX5_keepTenth_33 : decode cX5_keepTenth 33 = .ok (.aload_n 0, 1) := by decide +kernel
theorem dX5_keepTenth_34 : decode cX5_keepTenth 34 = .ok (.getfield 57, 3) := by decide +kernel
theorem dX5_keepTenth_37 : decode cX5_keepTenth 37 = .ok (.aload_n 0, 1) := by decide +kernel
theorem dX5_keepTenth_38 : decode cX5_keepTenth 38 = .ok (.getfield 38, 3) := by decide +kernel
theorem dX5_keepTenth_41 : decode cX5_keepTenth 41 = .ok (.iastore, 1) := by decide +kernel
theorem dX5_keepTenth_42 : decode cX5_keepTenth 42 = .ok (.aload_n 0, 1) := by decide +kernel
theorem dX5_keepTenth_43 : decode cX5_keepTenth 43 = .ok (.dup, 1) := by decide +kernel
theorem dX5_keepTenth_44 : decode cX5_keepTenth 44 = .ok (.getfield 57, 3) := by decide +kernel
theorem dX5_keepTenth_47 : decode cX5_keepTenth 47 = .ok (.iconst 1, 1) := by decide +kernel
theorem dX5_keepTenth_48 : decode cX5_keepTenth 48 = .ok (.iadd, 1) := by decide +kernel
theorem dX5_keepTenth_49 : decode cX5_keepTenth 49 = .ok (.putfield 57, 3) := by decide +kernel
theorem dX5_keepTenth_52 : decode cX5_keepTenth 52 = .ok (.return_, 1) := by decide +kernel
theorem dX5_tenthOf_0 : decode cX5_tenthOf 0 = .ok (.iload_n 1, 1) := by decide +kernel
theorem dX5_tenthOf_1 : decode cX5_tenthOf 1 = .ok (.ifCond .lt 17, 3) := by decide +kernel
theorem dX5_tenthOf_4 : decode cX5_tenthOf 4 = .ok (.iload_n 1, 1) := by decide +kernel
theorem dX5_tenthOf_5 : decode cX5_tenthOf 5 = .ok (.aload_n 0, 1) := by decide +kernel
theorem dX5_tenthOf_6 : decode cX5_tenthOf 6 = .ok (.getfield 57, 3) := by decide +kernel
theorem dX5_tenthOf_9 : decode cX5_tenthOf 9 = .ok (.if_icmp .ge 9, 3) := by decide +kernel
theorem dX5_tenthOf_12 : decode cX5_tenthOf 12 = .ok (.iload_n 1, 1) := by decide +kernel
theorem dX5_tenthOf_13 : decode cX5_tenthOf 13 = .ok (.bipush 100, 2) := by decide +kernel
theorem dX5_tenthOf_15 : decode cX5_tenthOf 15 = .ok (.if_icmp .lt 6, 3) := by decide +kernel
theorem dX5_tenthOf_18 : decode cX5_tenthOf 18 = .ok (.bipush (-9), 2) := by decide +kernel
theorem dX5_tenthOf_20 : decode cX5_tenthOf 20 = .ok (.ireturn, 1) := by decide +kernel
theorem dX5_tenthOf_21 : decode cX5_tenthOf 21 = .ok (.iload_n 2, 1) := by decide +kernel
theorem dX5_tenthOf_22 : decode cX5_tenthOf 22 = .ok (.ifCond .ne 12, 3) := by decide +kernel
theorem dX5_tenthOf_25 : decode cX5_tenthOf 25 = .ok (.aload_n 0, 1) := by decide +kernel
theorem dX5_tenthOf_26 : decode cX5_tenthOf 26 = .ok (.getfield 15, 3) := by decide +kernel
theorem dX5_tenthOf_29 : decode cX5_tenthOf 29 = .ok (.iload_n 1, 1) := by decide +kernel
theorem dX5_tenthOf_30 : decode cX5_tenthOf 30 = .ok (.iaload, 1) := by decide +kernel
theorem dX5_tenthOf_31 : decode cX5_tenthOf 31 = .ok (.goto 9, 3) := by decide +kernel
theorem dX5_tenthOf_34 : decode cX5_tenthOf 34 = .ok (.aload_n 0, 1) := by decide +kernel
theorem dX5_tenthOf_35 : decode cX5_tenthOf 35 = .ok (.getfield 18, 3) := by decide +kernel
theorem dX5_tenthOf_38 : decode cX5_tenthOf 38 = .ok (.iload_n 1, 1) := by decide +kernel
theorem dX5_tenthOf_39 : decode cX5_tenthOf 39 = .ok (.iaload, 1) := by decide +kernel
theorem dX5_tenthOf_40 : decode cX5_tenthOf 40 = .ok (.ireturn, 1) := by decide +kernel
theorem dX5_tookOf_0 : decode cX5_tookOf 0 = .ok (.iload_n 1, 1) := by decide +kernel
theorem dX5_tookOf_1 : decode cX5_tookOf 1 = .ok (.ifCond .lt 21, 3) := by decide +kernel
theorem dX5_tookOf_4 : decode cX5_tookOf 4 = .ok (.iload_n 1, 1) := by decide +kernel
theorem dX5_tookOf_5 : decode cX5_tookOf 5 = .ok (.aload_n 0, 1) := by decide +kernel
theorem dX5_tookOf_6 : decode cX5_tookOf 6 = .ok (.getfield 9, 3) := by decide +kernel
theorem dX5_tookOf_9 : decode cX5_tookOf 9 = .ok (.arraylength, 1) := by decide +kernel
theorem dX5_tookOf_10 : decode cX5_tookOf 10 = .ok (.if_icmp .ge 12, 3) := by decide +kernel
theorem dX5_tookOf_13 : decode cX5_tookOf 13 = .ok (.aload_n 0, 1) := by decide +kernel
theorem dX5_tookOf_14 : decode cX5_tookOf 14 = .ok (.getfield 9, 3) := by decide +kernel
theorem dX5_tookOf_17 : decode cX5_tookOf 17 = .ok (.iload_n 1, 1) := by decide +kernel
theorem dX5_tookOf_18 : decode cX5_tookOf 18 = .ok (.iaload, 1) := by decide +kernel
theorem dX5_tookOf_19 : decode cX5_tookOf 19 = .ok (.goto 4, 3) := by decide +kernel
theorem dX5_tookOf_22 : decode cX5_tookOf 22 = .ok (.iconst 0, 1) := by decide +kernel
theorem dX5_tookOf_23 : decode cX5_tookOf 23 = .ok (.ireturn, 1) := by decide +kernel
theorem dX5_copyFrom_0 : decode cX5_copyFrom 0 = .ok (.aload_n 0, 1) := by decide +kernel
theorem dX5_copyFrom_1 : decode cX5_copyFrom 1 = .ok (.aload_n 1, 1) := by decide +kernel
theorem dX5_copyFrom_2 : decode cX5_copyFrom 2 = .ok (.getfield 21, 3) := by decide +kernel
theorem dX5_copyFrom_5 : decode cX5_copyFrom 5 = .ok (.putfield 21, 3) := by decide +kernel
theorem dX5_copyFrom_8 : decode cX5_copyFrom 8 = .ok (.aload_n 0, 1) := by decide +kernel
theorem dX5_copyFrom_9 : decode cX5_copyFrom 9 = .ok (.aload_n 1, 1) := by decide +kernel
theorem dX5_copyFrom_10 : decode cX5_copyFrom 10 = .ok (.getfield 25, 3) := by decide +kernel
theorem dX5_copyFrom_13 : decode cX5_copyFrom 13 = .ok (.putfield 25, 3) := by decide +kernel
theorem dX5_copyFrom_16 : decode cX5_copyFrom 16 = .ok (.aload_n 0, 1) := by decide +kernel
theorem dX5_copyFrom_17 : decode cX5_copyFrom 17 = .ok (.aload_n 1, 1) := by decide +kernel
theorem dX5_copyFrom_18 : decode cX5_copyFrom 18 = .ok (.getfield 29, 3) := by decide +kernel
theorem dX5_copyFrom_21 : decode cX5_copyFrom 21 = .ok (.putfield 29, 3) := by decide +kernel
theorem dX5_copyFrom_24 : decode cX5_copyFrom 24 = .ok (.aload_n 0, 1) := by decide +kernel
theorem dX5_copyFrom_25 : decode cX5_copyFrom 25 = .ok (.aload_n 1, 1) := by decide +kernel
theorem dX5_copyFrom_26 : decode cX5_copyFrom 26 = .ok (.getfield 32, 3) := by decide +kernel
theorem dX5_copyFrom_29 : decode cX5_copyFrom 29 = .ok (.putfield 32, 3) := by decide +kernel
theorem dX5_copyFrom_32 : decode cX5_copyFrom 32 = .ok (.aload_n 0, 1) := by decide +kernel
theorem dX5_copyFrom_33 : decode cX5_copyFrom 33 = .ok (.aload_n 1, 1) := by decide +kernel
theorem dX5_copyFrom_34 : decode cX5_copyFrom 34 = .ok (.getfield 35, 3) := by decide +kernel
theorem dX5_copyFrom_37 : decode cX5_copyFrom 37 = .ok (.putfield 35, 3) := by decide +kernel
theorem dX5_copyFrom_40 : decode cX5_copyFrom 40 = .ok (.aload_n 0, 1) := by decide +kernel
theorem dX5_copyFrom_41 : decode cX5_copyFrom 41 = .ok (.aload_n 1, 1) := by decide +kernel
theorem dX5_copyFrom_42 : decode cX5_copyFrom 42 = .ok (.getfield 38, 3) := by decide +kernel
theorem dX5_copyFrom_45 : decode cX5_copyFrom 45 = .ok (.putfield 38, 3) := by decide +kernel
theorem dX5_copyFrom_48 : decode cX5_copyFrom 48 = .ok (.aload_n 0, 1) := by decide +kernel
theorem dX5_copyFrom_49 : decode cX5_copyFrom 49 = .ok (.aload_n 1, 1) := by decide +kernel
theorem dX5_copyFrom_50 : decode cX5_copyFrom 50 = .ok (.getfield 41, 3) := by decide +kernel
theorem dX5_copyFrom_53 : decode cX5_copyFrom 53 = .ok (.putfield 41, 3) := by decide +kernel
theorem dX5_copyFrom_56 : decode cX5_copyFrom 56 = .ok (.aload_n 0, 1) := by decide +kernel
theorem dX5_copyFrom_57 : decode cX5_copyFrom 57 = .ok (.aload_n 1, 1) := by decide +kernel
theorem dX5_copyFrom_58 : decode cX5_copyFrom 58 = .ok (.getfield 44, 3) := by decide +kernel
theorem dX5_copyFrom_61 : decode cX5_copyFrom 61 = .ok (.putfield 44, 3) := by decide +kernel
theorem dX5_copyFrom_64 : decode cX5_copyFrom 64 = .ok (.aload_n 0, 1) := by decide +kernel
theorem dX5_copyFrom_65 : decode cX5_copyFrom 65 = .ok (.aload_n 1, 1) := by decide +kernel
theorem dX5_copyFrom_66 : decode cX5_copyFrom 66 = .ok (.getfield 47, 3) := by decide +kernel
theorem dX5_copyFrom_69 : decode cX5_copyFrom 69 = .ok (.putfield 47, 3) := by decide +kernel
theorem dX5_copyFrom_72 : decode cX5_copyFrom 72 = .ok (.aload_n 0, 1) := by decide +kernel
theorem dX5_copyFrom_73 : decode cX5_copyFrom 73 = .ok (.aload_n 1, 1) := by decide +kernel
theorem dX5_copyFrom_74 : decode cX5_copyFrom 74 = .ok (.getfield 57, 3) := by decide +kernel
theorem dX5_copyFrom_77 : decode cX5_copyFrom 77 = .ok (.putfield 57, 3) := by decide +kernel
theorem dX5_copyFrom_80 : decode cX5_copyFrom 80 = .ok (.aload_n 1, 1) := by decide +kernel
theorem dX5_copyFrom_81 : decode cX5_copyFrom 81 = .ok (.getfield 9, 3) := by decide +kernel
theorem dX5_copyFrom_84 : decode cX5_copyFrom 84 = .ok (.iconst 0, 1) := by decide +kernel
theorem dX5_copyFrom_85 : decode cX5_copyFrom 85 = .ok (.aload_n 0, 1) := by decide +kernel
theorem dX5_copyFrom_86 : decode cX5_copyFrom 86 = .ok (.getfield 9, 3) := by decide +kernel
theorem dX5_copyFrom_89 : decode cX5_copyFrom 89 = .ok (.iconst 0, 1) := by decide +kernel
theorem dX5_copyFrom_90 : decode cX5_copyFrom 90 = .ok (.bipush 8, 2) := by decide +kernel
theorem dX5_copyFrom_92 : decode cX5_copyFrom 92 = .ok (.invokestatic 82, 3) := by decide +kernel
theorem dX5_copyFrom_95 : decode cX5_copyFrom 95 = .ok (.aload_n 1, 1) := by decide +kernel
theorem dX5_copyFrom_96 : decode cX5_copyFrom 96 = .ok (.getfield 15, 3) := by decide +kernel
theorem dX5_copyFrom_99 : decode cX5_copyFrom 99 = .ok (.iconst 0, 1) := by decide +kernel
theorem dX5_copyFrom_100 : decode cX5_copyFrom 100 = .ok (.aload_n 0, 1) := by decide +kernel
theorem dX5_copyFrom_101 : decode cX5_copyFrom 101 = .ok (.getfield 15, 3) := by decide +kernel
theorem dX5_copyFrom_104 : decode cX5_copyFrom 104 = .ok (.iconst 0, 1) := by decide +kernel
theorem dX5_copyFrom_105 : decode cX5_copyFrom 105 = .ok (.bipush 100, 2) := by decide +kernel
theorem dX5_copyFrom_107 : decode cX5_copyFrom 107 = .ok (.invokestatic 82, 3) := by decide +kernel
theorem dX5_copyFrom_110 : decode cX5_copyFrom 110 = .ok (.aload_n 1, 1) := by decide +kernel
theorem dX5_copyFrom_111 : decode cX5_copyFrom 111 = .ok (.getfield 18, 3) := by decide +kernel
theorem dX5_copyFrom_114 : decode cX5_copyFrom 114 = .ok (.iconst 0, 1) := by decide +kernel
theorem dX5_copyFrom_115 : decode cX5_copyFrom 115 = .ok (.aload_n 0, 1) := by decide +kernel
theorem dX5_copyFrom_116 : decode cX5_copyFrom 116 = .ok (.getfield 18, 3) := by decide +kernel
theorem dX5_copyFrom_119 : decode cX5_copyFrom 119 = .ok (.iconst 0, 1) := by decide +kernel
theorem dX5_copyFrom_120 : decode cX5_copyFrom 120 = .ok (.bipush 100, 2) := by decide +kernel
theorem dX5_copyFrom_122 : decode cX5_copyFrom 122 = .ok (.invokestatic 82, 3) := by decide +kernel
theorem dX5_copyFrom_125 : decode cX5_copyFrom 125 = .ok (.return_, 1) := by decide +kernel
theorem dX6_init_0 : decode cX6_init 0 = .ok (.aload_n 0, 1) := by decide +kernel
theorem dX6_init_1 : decode cX6_init 1 = .ok (.invokespecial 3, 3) := by decide +kernel
theorem dX6_init_4 : decode cX6_init 4 = .ok (.aload_n 0, 1) := by decide +kernel
theorem dX6_init_5 : decode cX6_init 5 = .ok (.bipush 20, 2) := by decide +kernel
theorem dX6_init_7 : decode cX6_init 7 = .ok (.newarray .int, 2) := by decide +kernel
theorem dX6_init_9 : decode cX6_init 9 = .ok (.putfield 9, 3) := by decide +kernel
theorem dX6_init_12 : decode cX6_init 12 = .ok (.aload_n 0, 1) := by decide +kernel
theorem dX6_init_13 : decode cX6_init 13 = .ok (.bipush 20, 2) := by decide +kernel
theorem dX6_init_15 : decode cX6_init 15 = .ok (.newarray .int, 2) := by decide +kernel
theorem dX6_init_17 : decode cX6_init 17 = .ok (.putfield 15, 3) := by decide +kernel
theorem dX6_init_20 : decode cX6_init 20 = .ok (.return_, 1) := by decide +kernel
theorem dX6_append_0 : decode cX6_append 0 = .ok (.iconst 0, 1) := by decide +kernel
theorem dX6_append_1 : decode cX6_append 1 = .ok (.istore 4, 2) := by decide +kernel
theorem dX6_append_3 : decode cX6_append 3 = .ok (.iload 4, 2) := by decide +kernel
theorem dX6_append_5 : decode cX6_append 5 = .ok (.iload_n 1, 1) := by decide +kernel
theorem dX6_append_6 : decode cX6_append 6 = .ok (.if_icmp .ge 59, 3) := by decide +kernel
theorem dX6_append_9 : decode cX6_append 9 = .ok (.aload_n 0, 1) := by decide +kernel
theorem dX6_append_10 : decode cX6_append 10 = .ok (.getfield 18, 3) := by decide +kernel
theorem dX6_append_13 : decode cX6_append 13 = .ok (.ifCond .lt 52, 3) := by decide +kernel
theorem dX6_append_16 : decode cX6_append 16 = .ok (.aload_n 0, 1) := by decide +kernel
theorem dX6_append_17 : decode cX6_append 17 = .ok (.getfield 18, 3) := by decide +kernel
theorem dX6_append_20 : decode cX6_append 20 = .ok (.aload_n 0, 1) := by decide +kernel
theorem dX6_append_21 : decode cX6_append 21 = .ok (.getfield 9, 3) := by decide +kernel
theorem dX6_append_24 : decode cX6_append 24 = .ok (.arraylength, 1) := by decide +kernel
theorem dX6_append_25 : decode cX6_append 25 = .ok (.if_icmp .ge 40, 3) := by decide +kernel
theorem dX6_append_28 : decode cX6_append 28 = .ok (.aload_n 0, 1) := by decide +kernel
theorem dX6_append_29 : decode cX6_append 29 = .ok (.getfield 9, 3) := by decide +kernel
theorem dX6_append_32 : decode cX6_append 32 = .ok (.aload_n 0, 1) := by decide +kernel
theorem dX6_append_33 : decode cX6_append 33 = .ok (.getfield 18, 3) := by decide +kernel
theorem dX6_append_36 : decode cX6_append 36 = .ok (.lload_n 2, 1) := by decide +kernel
theorem dX6_append_37 : decode cX6_append 37 = .ok (.bipush 8, 2) := by decide +kernel
theorem dX6_append_39 : decode cX6_append 39 = .ok (.iload 4, 2) := by decide +kernel
theorem dX6_append_41 : decode cX6_append 41 = .ok (.imul, 1) := by decide +kernel
theorem dX6_append_42 : decode cX6_append 42 = .ok (.lushr, 1) := by decide +kernel
theorem dX6_append_43 : decode cX6_append 43 = .ok (.ldc2_w 22, 3) := by decide +kernel
theorem dX6_append_46 : decode cX6_append 46 = .ok (.land, 1) := by decide +kernel
theorem dX6_append_47 : decode cX6_append 47 = .ok (.l2i, 1) := by decide +kernel
theorem dX6_append_48 : decode cX6_append 48 = .ok (.iastore, 1) := by decide +kernel
theorem dX6_append_49 : decode cX6_append 49 = .ok (.aload_n 0, 1) := by decide +kernel
theorem dX6_append_50 : decode cX6_append 50 = .ok (.dup, 1) := by decide +kernel
theorem dX6_append_51 : decode cX6_append 51 = .ok (.getfield 18, 3) := by decide +kernel
theorem dX6_append_54 : decode cX6_append 54 = .ok (.iconst 1, 1) := by decide +kernel
theorem dX6_append_55 : decode cX6_append 55 = .ok (.iadd, 1) := by decide +kernel
theorem dX6_append_56 : decode cX6_append 56 = .ok (.putfield 18, 3) := by decide +kernel
theorem dX6_append_59 : decode cX6_append 59 = .ok (.iinc 4 1, 3) := by decide +kernel
theorem dX6_append_62 : decode cX6_append 62 = .ok (.goto (-59), 3) := by decide +kernel
theorem dX6_append_65 : decode cX6_append 65 = .ok (.return_, 1) := by decide +kernel
theorem dX6_readPlate_0 : decode cX6_readPlate 0 = .ok (.aload_n 0, 1) := by decide +kernel
theorem dX6_readPlate_1 : decode cX6_readPlate 1 = .ok (.invokevirtual 24, 3) := by decide +kernel
theorem dX6_readPlate_4 : decode cX6_readPlate 4 = .ok (.aload_n 0, 1) := by decide +kernel
theorem dX6_readPlate_5 : decode cX6_readPlate 5 = .ok (.bipush 119, 2) := by decide +kernel
theorem dX6_readPlate_7 : decode cX6_readPlate 7 = .ok (.iconst 1, 1) := by decide +kernel
theorem dX6_readPlate_8 : decode cX6_readPlate 8 = .ok (.sipush 999, 3) := by decide +kernel
theorem dX6_readPlate_11 : decode cX6_readPlate 11 = .ok (.invokevirtual 27, 3) := by decide +kernel
theorem dX6_readPlate_14 : decode cX6_readPlate 14 = .ok (.istore_n 1, 1) := by decide +kernel
theorem dX6_readPlate_15 : decode cX6_readPlate 15 = .ok (.aload_n 0, 1) := by decide +kernel
theorem dX6_readPlate_16 : decode cX6_readPlate 16 = .ok (.bipush 100, 2) := by decide +kernel
theorem dX6_readPlate_18 : decode cX6_readPlate 18 = .ok (.iconst 1, 1) := by decide +kernel
theorem dX6_readPlate_19 : decode cX6_readPlate 19 = .ok (.bipush 99, 2) := by decide +kernel
theorem dX6_readPlate_21 : decode cX6_readPlate 21 = .ok (.invokevirtual 27, 3) := by decide +kernel
theorem dX6_readPlate_24 : decode cX6_readPlate 24 = .ok (.istore_n 2, 1) := by decide +kernel
theorem dX6_readPlate_25 : decode cX6_readPlate 25 = .ok (.aload_n 0, 1) := by decide +kernel
theorem dX6_readPlate_26 : decode cX6_readPlate 26 = .ok (.invokevirtual 31, 3) := by decide +kernel
theorem dX6_readPlate_29 : decode cX6_readPlate 29 = .ok (.bipush 101, 2) := by decide +kernel
theorem dX6_readPlate_31 : decode cX6_readPlate 31 = .ok (.if_icmp .ne 15, 3) := by decide +kernel
theorem dX6_readPlate_34 : decode cX6_readPlate 34 = .ok (.aload_n 0, 1) := by decide +kernel
theorem dX6_readPlate_35 : decode cX6_readPlate 35 = .ok (.bipush 101, 2) := by decide +kernel
theorem dX6_readPlate_37 : decode cX6_readPlate 37 = .ok (.iconst 0, 1) := by decide +kernel
theorem dX6_readPlate_38 : decode cX6_readPlate 38 = .ok (.bipush 9, 2) := by decide +kernel
theorem dX6_readPlate_40 : decode cX6_readPlate 40 = .ok (.invokevirtual 27, 3) := by decide +kernel
theorem dX6_readPlate_43 : decode cX6_readPlate 43 = .ok (.goto 4, 3) := by decide +kernel
theorem dX6_readPlate_46 : decode cX6_readPlate 46 = .ok (.iconst 0, 1) := by decide +kernel
theorem dX6_readPlate_47 : decode cX6_readPlate 47 = .ok (.istore_n 3, 1) := by decide +kernel
theorem dX6_readPlate_48 : decode cX6_readPlate 48 = .ok (.aload_n 0, 1) := by decide +kernel
theorem dX6_readPlate_49 : decode cX6_readPlate 49 = .ok (.invokevirtual 31, 3) := by decide +kernel
theorem dX6_readPlate_52 : decode cX6_readPlate 52 = .ok (.bipush 104, 2) := by decide +kernel
theorem dX6_readPlate_54 : decode cX6_readPlate 54 = .ok (.if_icmp .ne 15, 3) := by decide +kernel
theorem dX6_readPlate_57 : decode cX6_readPlate 57 = .ok (.aload_n 0, 1) := by decide +kernel
theorem dX6_readPlate_58 : decode cX6_readPlate 58 = .ok (.bipush 104, 2) := by decide +kernel
theorem dX6_readPlate_60 : decode cX6_readPlate 60 = .ok (.iconst 0, 1) := by decide +kernel
theorem dX6_readPlate_61 : decode cX6_readPlate 61 = .ok (.bipush 9, 2) := by decide +kernel
theorem dX6_readPlate_63 : decode cX6_readPlate 63 = .ok (.invokevirtual 27, 3) := by decide +kernel
theorem dX6_readPlate_66 : decode cX6_readPlate 66 = .ok (.goto 4, 3) := by decide +kernel
theorem dX6_readPlate_69 : decode cX6_readPlate 69 = .ok (.iconst 0, 1) := by decide +kernel
theorem dX6_readPlate_70 : decode cX6_readPlate 70 = .ok (.istore 4, 2) := by decide +kernel
theorem dX6_readPlate_72 : decode cX6_readPlate 72 = .ok (.aload_n 0, 1) := by decide +kernel
theorem dX6_readPlate_73 : decode cX6_readPlate 73 = .ok (.invokevirtual 31, 3) := by decide +kernel
theorem dX6_readPlate_76 : decode cX6_readPlate 76 = .ok (.bipush 98, 2) := by decide +kernel
theorem dX6_readPlate_78 : decode cX6_readPlate 78 = .ok (.if_icmp .ne 15, 3) := by decide +kernel
theorem dX6_readPlate_81 : decode cX6_readPlate 81 = .ok (.aload_n 0, 1) := by decide +kernel
theorem dX6_readPlate_82 : decode cX6_readPlate 82 = .ok (.bipush 98, 2) := by decide +kernel
theorem dX6_readPlate_84 : decode cX6_readPlate 84 = .ok (.iconst 0, 1) := by decide +kernel
theorem dX6_readPlate_85 : decode cX6_readPlate 85 = .ok (.bipush 9, 2) := by decide +kernel
theorem dX6_readPlate_87 : decode cX6_readPlate 87 = .ok (.invokevirtual 27, 3) := by decide +kernel
theorem dX6_readPlate_90 : decode cX6_readPlate 90 = .ok (.goto 4, 3) := by decide +kernel
theorem dX6_readPlate_93 : decode cX6_readPlate 93 = .ok (.iconst 0, 1) := by decide +kernel
theorem dX6_readPlate_94 : decode cX6_readPlate 94 = .ok (.istore 5, 2) := by decide +kernel
theorem dX6_readPlate_96 : decode cX6_readPlate 96 = .ok (.aload_n 0, 1) := by decide +kernel
theorem dX6_readPlate_97 : decode cX6_readPlate 97 = .ok (.invokevirtual 35, 3) := by decide +kernel
theorem dX6_readPlate_100 : decode cX6_readPlate 100 = .ok (.aload_n 0, 1) := by decide +kernel
theorem dX6_readPlate_101 : decode cX6_readPlate 101 = .ok (.getfield 38, 3) := by decide +kernel
theorem dX6_readPlate_104 : decode cX6_readPlate 104 = .ok (.iconst (-1), 1) := by decide +kernel
theorem dX6_readPlate_105 : decode cX6_readPlate 105 = .ok (.if_icmp .ne 20, 3) := by decide +kernel
theorem dX6_readPlate_108 : decode cX6_readPlate 108 = .ok (.new 41, 3) := by decide +kernel
theorem dX6_readPlate_111 : decode cX6_readPlate 111 = .ok (.dup, 1) := by decide +kernel
theorem dX6_readPlate_112 : decode cX6_readPlate 112 = .ok (.iload_n 1, 1) := by decide +kernel
theorem dX6_readPlate_113 : decode cX6_readPlate 113 = .ok (.iload_n 2, 1) := by decide +kernel
theorem dX6_readPlate_114 : decode cX6_readPlate 114 = .ok (.iload_n 3, 1) := by decide +kernel
theorem dX6_readPlate_115 : decode cX6_readPlate 115 = .ok (.iload 4, 2) := by decide +kernel
theorem dX6_readPlate_117 : decode cX6_readPlate 117 = .ok (.iload 5, 2) := by decide +kernel
theorem dX6_readPlate_119 : decode cX6_readPlate 119 = .ok (.invokespecial 43, 3) := by decide +kernel
theorem dX6_readPlate_122 : decode cX6_readPlate 122 = .ok (.goto 4, 3) := by decide +kernel
theorem dX6_readPlate_125 : decode cX6_readPlate 125 = .ok (.aconst_null, 1) := by decide +kernel
theorem dX6_readPlate_126 : decode cX6_readPlate 126 = .ok (.areturn, 1) := by decide +kernel
theorem dX6_readLaw_0 : decode cX6_readLaw 0 = .ok (.aload_n 0, 1) := by decide +kernel
theorem dX6_readLaw_1 : decode cX6_readLaw 1 = .ok (.invokevirtual 24, 3) := by decide +kernel
theorem dX6_readLaw_4 : decode cX6_readLaw 4 = .ok (.aload_n 0, 1) := by decide +kernel
theorem dX6_readLaw_5 : decode cX6_readLaw 5 = .ok (.iconst 0, 1) := by decide +kernel
theorem dX6_readLaw_6 : decode cX6_readLaw 6 = .ok (.putfield 46, 3) := by decide +kernel
theorem dX6_readLaw_9 : decode cX6_readLaw 9 = .ok (.aload_n 0, 1) := by decide +kernel
theorem dX6_readLaw_10 : decode cX6_readLaw 10 = .ok (.iconst 0, 1) := by decide +kernel
theorem dX6_readLaw_11 : decode cX6_readLaw 11 = .ok (.invokevirtual 49, 3) := by decide +kernel
theorem dX6_readLaw_14 : decode cX6_readLaw 14 = .ok (.aload_n 0, 1) := by decide +kernel
theorem dX6_readLaw_15 : decode cX6_readLaw 15 = .ok (.invokevirtual 35, 3) := by decide +kernel
theorem dX6_readLaw_18 : decode cX6_readLaw 18 = .ok (.aload_n 0, 1) := by decide +kernel
theorem dX6_readLaw_19 : decode cX6_readLaw 19 = .ok (.getfield 38, 3) := by decide +kernel
theorem dX6_readLaw_22 : decode cX6_readLaw 22 = .ok (.iconst (-1), 1) := by decide +kernel
theorem dX6_readLaw_23 : decode cX6_readLaw 23 = .ok (.if_icmp .ne 17, 3) := by decide +kernel
theorem dX6_readLaw_26 : decode cX6_readLaw 26 = .ok (.aload_n 0, 1) := by decide +kernel
theorem dX6_readLaw_27 : decode cX6_readLaw 27 = .ok (.getfield 15, 3) := by decide +kernel
theorem dX6_readLaw_30 : decode cX6_readLaw 30 = .ok (.aload_n 0, 1) := by decide +kernel
theorem dX6_readLaw_31 : decode cX6_readLaw 31 = .ok (.getfield 46, 3) := by decide +kernel
theorem dX6_readLaw_34 : decode cX6_readLaw 34 = .ok (.invokestatic 53, 3) := by decide +kernel
theorem dX6_readLaw_37 : decode cX6_readLaw 37 = .ok (.goto 4, 3) := by decide +kernel
theorem dX6_readLaw_40 : decode cX6_readLaw 40 = .ok (.aconst_null, 1) := by decide +kernel
theorem dX6_readLaw_41 : decode cX6_readLaw 41 = .ok (.areturn, 1) := by decide +kernel
theorem dX6_begin_0 : decode cX6_begin 0 = .ok (.aload_n 0, 1) := by decide +kernel
theorem dX6_begin_1 : decode cX6_begin 1 = .ok (.iconst 0, 1) := by decide +kernel
theorem dX6_begin_2 : decode cX6_begin 2 = .ok (.putfield 59, 3) := by decide +kernel
theorem dX6_begin_5 : decode cX6_begin 5 = .ok (.aload_n 0, 1) := by decide +kernel
theorem dX6_begin_6 : decode cX6_begin 6 = .ok (.iconst (-1), 1) := by decide +kernel
theorem dX6_begin_7 : decode cX6_begin 7 = .ok (.putfield 38, 3) := by decide +kernel
theorem dX6_begin_10 : decode cX6_begin 10 = .ok (.return_, 1) := by decide +kernel
theorem dX6_next_0 : decode cX6_next 0 = .ok (.aload_n 0, 1) := by decide +kernel
theorem dX6_next_1 : decode cX6_next 1 = .ok (.getfield 38, 3) := by decide +kernel
theorem dX6_next_4 : decode cX6_next 4 = .ok (.iconst (-1), 1) := by decide +kernel
theorem dX6_next_5 : decode cX6_next 5 = .ok (.if_icmp .ne 37, 3) := by decide +kernel
theorem dX6_next_8 : decode cX6_next 8 = .ok (.aload_n 0, 1) := by decide +kernel
theorem dX6_next_9 : decode cX6_next 9 = .ok (.getfield 59, 3) := by decide +kernel
theorem dX6_next_12 : decode cX6_next 12 = .ok (.ifCond .lt 30, 3) := by decide +kernel
theorem dX6_next_15 : decode cX6_next 15 = .ok (.aload_n 0, 1) := by decide +kernel
theorem dX6_next_16 : decode cX6_next 16 = .ok (.getfield 59, 3) := by decide +kernel
theorem dX6_next_19 : decode cX6_next 19 = .ok (.aload_n 0, 1) := by decide +kernel
theorem dX6_next_20 : decode cX6_next 20 = .ok (.getfield 18, 3) := by decide +kernel
theorem dX6_next_23 : decode cX6_next 23 = .ok (.if_icmp .ge 19, 3) := by decide +kernel
theorem dX6_next_26 : decode cX6_next 26 = .ok (.aload_n 0, 1) := by decide +kernel
theorem dX6_next_27 : decode cX6_next 27 = .ok (.getfield 59, 3) := by decide +kernel
theorem dX6_next_30 : decode cX6_next 30 = .ok (.aload_n 0, 1) := by decide +kernel
theorem dX6_next_31 : decode cX6_next 31 = .ok (.getfield 9, 3) := by decide +kernel
theorem dX6_next_34 : decode cX6_next 34 = .ok (.arraylength, 1) := by decide +kernel
theorem dX6_next_35 : decode cX6_next 35 = .ok (.if_icmp .ge 7, 3) := by decide +kernel
theorem dX6_next_38 : decode cX6_next 38 = .ok (.iconst 1, 1) := by decide +kernel
theorem dX6_next_39 : decode cX6_next 39 = .ok (.goto 4, 3) := by decide +kernel
theorem dX6_next_42 : decode cX6_next 42 = .ok (.iconst 0, 1) := by decide +kernel
theorem dX6_next_43 : decode cX6_next 43 = .ok (.istore_n 1, 1) := by decide +kernel
theorem dX6_next_44 : decode cX6_next 44 = .ok (.iload_n 1, 1) := by decide +kernel
theorem dX6_next_45 : decode cX6_next 45 = .ok (.ifCond .eq 15, 3) := by decide +kernel
theorem dX6_next_48 : decode cX6_next 48 = .ok (.aload_n 0, 1) := by decide +kernel
theorem dX6_next_49 : decode cX6_next 49 = .ok (.getfield 9, 3) := by decide +kernel
theorem dX6_next_52 : decode cX6_next 52 = .ok (.aload_n 0, 1) := by decide +kernel
theorem dX6_next_53 : decode cX6_next 53 = .ok (.getfield 59, 3) := by decide +kernel
theorem dX6_next_56 : decode cX6_next 56 = .ok (.iaload, 1) := by decide +kernel
theorem dX6_next_57 : decode cX6_next 57 = .ok (.goto 4, 3) := by decide +kernel
theorem dX6_next_60 : decode cX6_next 60 = .ok (.iconst (-1), 1) := by decide +kernel
theorem dX6_next_61 : decode cX6_next 61 = .ok (.ireturn, 1) := by decide +kernel
theorem dX6_failAt_0 : decode cX6_failAt 0 = .ok (.aload_n 0, 1) := by decide +kernel
theorem dX6_failAt_1 : decode cX6_failAt 1 = .ok (.getfield 38, 3) := by decide +kernel
theorem dX6_failAt_4 : decode cX6_failAt 4 = .ok (.iconst (-1), 1) := by decide +kernel
theorem dX6_failAt_5 : decode cX6_failAt 5 = .ok (.if_icmp .ne 8, 3) := by decide +kernel
theorem dX6_failAt_8 : decode cX6_failAt 8 = .ok (.aload_n 0, 1) := by decide +kernel
theorem dX6_failAt_9 : decode cX6_failAt 9 = .ok (.iload_n 1, 1) := by decide +kernel
theorem dX6_failAt_10 : decode cX6_failAt 10 = .ok (.putfield 38, 3) := by decide +kernel
theorem dX6_failAt_13 : decode cX6_failAt 13 = .ok (.return_, 1) := by decide +kernel
theorem dX6_expect_0 : decode cX6_expect 0 = .ok (.aload_n 0, 1) := by decide +kernel
theorem dX6_expect_1 : decode cX6_expect 1 = .ok (.invokevirtual 31, 3) := by decide +kernel
theorem dX6_expect_4 : decode cX6_expect 4 = .ok (.iload_n 1, 1) := by decide +kernel
theorem dX6_expect_5 : decode cX6_expect 5 = .ok (.if_icmp .ne 16, 3) := by decide +kernel
theorem dX6_expect_8 : decode cX6_expect 8 = .ok (.aload_n 0, 1) := by decide +kernel
theorem dX6_expect_9 : decode cX6_expect 9 = .ok (.dup, 1) := by decide +kernel
theorem dX6_expect_10 : decode cX6_expect 10 = .ok (.getfield 59, 3) := by decide +kernel
theorem dX6_expect_13 : decode cX6_expect 13 = .ok (.iconst 1, 1) := by decide +kernel
theorem dX6_expect_14 : decode cX6_expect 14 = .ok (.iadd, 1) := by decide +kernel
theorem dX6_expect_15 : decode cX6_expect 15 = .ok (.putfield 59, 3) := by decide +kernel
theorem dX6_expect_18 : decode cX6_expect 18 = .ok (.goto 11, 3) := by decide +kernel
theorem dX6_expect_21 : decode cX6_expect 21 = .ok (.aload_n 0, 1) := by decide +kernel
theorem dX6_expect_22 : decode cX6_expect 22 = .ok (.aload_n 0, 1) := by decide +kernel
theorem dX6_expect_23 : decode cX6_expect 23 = .ok (.getfield 59, 3) := by decide +kernel
theorem dX6_expect_26 : decode cX6_expect 26 = .ok (.invokevirtual 62, 3) := by decide +kernel
theorem dX6_expect_29 : decode cX6_expect 29 = .ok (.return_, 1) := by decide +kernel
theorem dX6_expectEnd_0 : decode cX6_expectEnd 0 = .ok (.aload_n 0, 1) := by decide +kernel
theorem dX6_expectEnd_1 : decode cX6_expectEnd 1 = .ok (.invokevirtual 31, 3) := by decide +kernel
theorem dX6_expectEnd_4 : decode cX6_expectEnd 4 = .ok (.iconst (-1), 1) := by decide +kernel
theorem dX6_expectEnd_5 : decode cX6_expectEnd 5 = .ok (.if_icmp .eq 11, 3) := by decide +kernel
theorem dX6_expectEnd_8 : decode cX6_expectEnd 8 = .ok (.aload_n 0, 1) := by decide +kernel
theorem dX6_expectEnd_9 : decode cX6_expectEnd 9 = .ok (.aload_n 0, 1) := by decide +kernel
theorem dX6_expectEnd_10 : decode cX6_expectEnd 10 = .ok (.getfield 59, 3) := by decide +kernel
theorem dX6_expectEnd_13 : decode cX6_expectEnd 13 = .ok (.invokevirtual 62, 3) := by decide +kernel
theorem dX6_expectEnd_16 : decode cX6_expectEnd 16 = .ok (.return_, 1) := by decide +kernel
theorem dX6_readPart_0 : decode cX6_readPart 0 = .ok (.aload_n 0, 1) := by decide +kernel
theorem dX6_readPart_1 : decode cX6_readPart 1 = .ok (.iload_n 1, 1) := by decide +kernel
theorem dX6_readPart_2 : decode cX6_readPart 2 = .ok (.invokevirtual 65, 3) := by decide +kernel
theorem dX6_readPart_5 : decode cX6_readPart 5 = .ok (.aload_n 0, 1) := by decide +kernel
theorem dX6_readPart_6 : decode cX6_readPart 6 = .ok (.iload_n 2, 1) := by decide +kernel
theorem dX6_readPart_7 : decode cX6_readPart 7 = .ok (.iload_n 3, 1) := by decide +kernel
theorem dX6_readPart_8 : decode cX6_readPart 8 = .ok (.invokevirtual 68, 3) := by decide +kernel
theorem dX6_readPart_11 : decode cX6_readPart 11 = .ok (.ireturn, 1) := by decide +kernel
theorem dX6_isAtDigit_0 : decode cX6_isAtDigit 0 = .ok (.aload_n 0, 1) := by decide +kernel
theorem dX6_isAtDigit_1 : decode cX6_isAtDigit 1 = .ok (.invokevirtual 31, 3) := by decide +kernel
theorem dX6_isAtDigit_4 : decode cX6_isAtDigit 4 = .ok (.bipush 48, 2) := by decide +kernel
theorem dX6_isAtDigit_6 : decode cX6_isAtDigit 6 = .ok (.if_icmp .lt 16, 3) := by decide +kernel
theorem dX6_isAtDigit_9 : decode cX6_isAtDigit 9 = .ok (.aload_n 0, 1) := by decide +kernel
theorem dX6_isAtDigit_10 : decode cX6_isAtDigit 10 = .ok (.invokevirtual 31, 3) := by decide +kernel
theorem dX6_isAtDigit_13 : decode cX6_isAtDigit 13 = .ok (.bipush 57, 2) := by decide +kernel
theorem dX6_isAtDigit_15 : decode cX6_isAtDigit 15 = .ok (.if_icmp .gt 7, 3) := by decide +kernel
theorem dX6_isAtDigit_18 : decode cX6_isAtDigit 18 = .ok (.iconst 1, 1) := by decide +kernel
theorem dX6_isAtDigit_19 : decode cX6_isAtDigit 19 = .ok (.goto 4, 3) := by decide +kernel
theorem dX6_isAtDigit_22 : decode cX6_isAtDigit 22 = .ok (.iconst 0, 1) := by decide +kernel
theorem dX6_isAtDigit_23 : decode cX6_isAtDigit 23 = .ok (.ireturn, 1) := by decide +kernel
theorem dX6_readNumber_0 : decode cX6_readNumber 0 = .ok (.aload_n 0, 1) := by decide +kernel
theorem dX6_readNumber_1 : decode cX6_readNumber 1 = .ok (.getfield 59, 3) := by decide +kernel
theorem dX6_readNumber_4 : decode cX6_readNumber 4 = .ok (.istore_n 3, 1) := by decide +kernel
theorem dX6_readNumber_5 : decode cX6_readNumber 5 = .ok (.iconst 0, 1) := by decide +kernel
theorem dX6_readNumber_6 : decode cX6_readNumber 6 = .ok (.istore 4, 2) := by decide +kernel
theorem dX6_readNumber_8 : decode cX6_readNumber 8 = .ok (.iconst 0, 1) := by decide +kernel
theorem dX6_readNumber_9 : decode cX6_readNumber 9 = .ok (.istore 5, 2) := by decide +kernel
theorem dX6_readNumber_11 : decode cX6_readNumber 11 = .ok (.iload 5, 2) := by decide +kernel
theorem dX6_readNumber_13 : decode cX6_readNumber 13 = .ok (.iconst 3, 1) := by decide +kernel
theorem dX6_readNumber_14 : decode cX6_readNumber 14 = .ok (.if_icmp .ge 51, 3) := by decide +kernel
theorem dX6_readNumber_17 : decode cX6_readNumber 17 = .ok (.aload_n 0, 1) := by decide +kernel
theorem dX6_readNumber_18 : decode cX6_readNumber 18 = .ok (.invokevirtual 72, 3) := by decide +kernel
theorem dX6_readNumber_21 : decode cX6_readNumber 21 = .ok (.ifCond .eq 44, 3) := by decide +kernel
theorem dX6_readNumber_24 : decode cX6_readNumber 24 = .ok (.iload 5, 2) := by decide +kernel
theorem dX6_readNumber_26 : decode cX6_readNumber 26 = .ok (.ifCond .eq 8, 3) := by decide +kernel
theorem dX6_readNumber_29 : decode cX6_readNumber 29 = .ok (.iload 4, 2) := by decide +kernel
theorem dX6_readNumber_31 : decode cX6_readNumber 31 = .ok (.ifCond .le 34, 3) := by decide +kernel
theorem dX6_readNumber_34 : decode cX6_readNumber 34 = .ok (.iload 4, 2) := by decide +kernel
theorem dX6_readNumber_36 : decode cX6_readNumber 36 = .ok (.bipush 10, 2) := by decide +kernel
theorem dX6_readNumber_38 : decode cX6_readNumber 38 = .ok (.imul, 1) := by decide +kernel
theorem dX6_readNumber_39 : decode cX6_readNumber 39 = .ok (.aload_n 0, 1) := by decide +kernel
theorem dX6_readNumber_40 : decode cX6_readNumber 40 = .ok (.invokevirtual 31, 3) := by decide +kernel
theorem dX6_readNumber_43 : decode cX6_readNumber 43 = .ok (.iadd, 1) := by decide +kernel
theorem dX6_readNumber_44 : decode cX6_readNumber 44 = .ok (.bipush 48, 2) := by decide +kernel
theorem dX6_readNumber_46 : decode cX6_readNumber 46 = .ok (.isub, 1) := by decide +kernel
theorem dX6_readNumber_47 : decode cX6_readNumber 47 = .ok (.istore 4, 2) := by decide +kernel
theorem dX6_readNumber_49 : decode cX6_readNumber 49 = .ok (.aload_n 0, 1) := by decide +kernel
theorem dX6_readNumber_50 : decode cX6_readNumber 50 = .ok (.dup, 1) := by decide +kernel
theorem dX6_readNumber_51 : decode cX6_readNumber 51 = .ok (.getfield 59, 3) := by decide +kernel
theorem dX6_readNumber_54 : decode cX6_readNumber 54 = .ok (.iconst 1, 1) := by decide +kernel
theorem dX6_readNumber_55 : decode cX6_readNumber 55 = .ok (.iadd, 1) := by decide +kernel
theorem dX6_readNumber_56 : decode cX6_readNumber 56 = .ok (.putfield 59, 3) := by decide +kernel
theorem dX6_readNumber_59 : decode cX6_readNumber 59 = .ok (.iinc 5 1, 3) := by decide +kernel
theorem dX6_readNumber_62 : decode cX6_readNumber 62 = .ok (.goto (-51), 3) := by decide +kernel
theorem dX6_readNumber_65 : decode cX6_readNumber 65 = .ok (.iload 5, 2) := by decide +kernel
theorem dX6_readNumber_67 : decode cX6_readNumber 67 = .ok (.ifCond .eq 15, 3) := by decide +kernel
theorem dX6_readNumber_70 : decode cX6_readNumber 70 = .ok (.iload 4, 2) := by decide +kernel
theorem dX6_readNumber_72 : decode cX6_readNumber 72 = .ok (.iload_n 1, 1) := by decide +kernel
theorem dX6_readNumber_73 : decode cX6_readNumber 73 = .ok (.if_icmp .lt 9, 3) := by decide +kernel
theorem dX6_readNumber_76 : decode cX6_readNumber 76 = .ok (.iload 4, 2) := by decide +kernel
theorem dX6_readNumber_78 : decode cX6_readNumber 78 = .ok (.iload_n 2, 1) := by decide +kernel
theorem dX6_readNumber_79 : decode cX6_readNumber 79 = .ok (.if_icmp .le 8, 3) := by decide +kernel
theorem dX6_readNumber_82 : decode cX6_readNumber 82 = .ok (.aload_n 0, 1) := by decide +kernel
theorem dX6_readNumber_83 : decode cX6_readNumber 83 = .ok (.iload_n 3, 1) := by decide +kernel
theorem dX6_readNumber_84 : decode cX6_readNumber 84 = .ok (.invokevirtual 62, 3) := by decide +kernel
theorem dX6_readNumber_87 : decode cX6_readNumber 87 = .ok (.iload 4, 2) := by decide +kernel
theorem dX6_readNumber_89 : decode cX6_readNumber 89 = .ok (.ireturn, 1) := by decide +kernel
theorem dX6_readSum_0 : decode cX6_readSum 0 = .ok (.aload_n 0, 1) := by decide +kernel
theorem dX6_readSum_1 : decode cX6_readSum 1 = .ok (.iload_n 1, 1) := by decide +kernel
theorem dX6_readSum_2 : decode cX6_readSum 2 = .ok (.invokevirtual 76, 3) := by decide +kernel
theorem dX6_readSum_5 : decode cX6_readSum 5 = .ok (.iconst 0, 1) := by decide +kernel
theorem dX6_readSum_6 : decode cX6_readSum 6 = .ok (.istore_n 2, 1) := by decide +kernel
theorem dX6_readSum_7 : decode cX6_readSum 7 = .ok (.iload_n 2, 1) := by decide +kernel
theorem dX6_readSum_8 : decode cX6_readSum 8 = .ok (.bipush 20, 2) := by decide +kernel
theorem dX6_readSum_10 : decode cX6_readSum 10 = .ok (.if_icmp .ge 53, 3) := by decide +kernel
theorem dX6_readSum_13 : decode cX6_readSum 13 = .ok (.aload_n 0, 1) := by decide +kernel
theorem dX6_readSum_14 : decode cX6_readSum 14 = .ok (.invokevirtual 31, 3) := by decide +kernel
theorem dX6_readSum_17 : decode cX6_readSum 17 = .ok (.bipush 43, 2) := by decide +kernel
theorem dX6_readSum_19 : decode cX6_readSum 19 = .ok (.if_icmp .eq 12, 3) := by decide +kernel
theorem dX6_readSum_22 : decode cX6_readSum 22 = .ok (.aload_n 0, 1) := by decide +kernel
theorem dX6_readSum_23 : decode cX6_readSum 23 = .ok (.invokevirtual 31, 3) := by decide +kernel
theorem dX6_readSum_26 : decode cX6_readSum 26 = .ok (.bipush 45, 2) := by decide +kernel
theorem dX6_readSum_28 : decode cX6_readSum 28 = .ok (.if_icmp .ne 35, 3) := by decide +kernel
theorem dX6_readSum_31 : decode cX6_readSum 31 = .ok (.aload_n 0, 1) := by decide +kernel
theorem dX6_readSum_32 : decode cX6_readSum 32 = .ok (.invokevirtual 31, 3) := by decide +kernel
theorem dX6_readSum_35 : decode cX6_readSum 35 = .ok (.istore_n 3, 1) := by decide +kernel
theorem dX6_readSum_36 : decode cX6_readSum 36 = .ok (.aload_n 0, 1) := by decide +kernel
theorem dX6_readSum_37 : decode cX6_readSum 37 = .ok (.dup, 1) := by decide +kernel
theorem dX6_readSum_38 : decode cX6_readSum 38 = .ok (.getfield 59, 3) := by decide +kernel
theorem dX6_readSum_41 : decode cX6_readSum 41 = .ok (.iconst 1, 1) := by decide +kernel
theorem dX6_readSum_42 : decode cX6_readSum 42 = .ok (.iadd, 1) := by decide +kernel
theorem dX6_readSum_43 : decode cX6_readSum 43 = .ok (.putfield 59, 3) := by decide +kernel
theorem dX6_readSum_46 : decode cX6_readSum 46 = .ok (.aload_n 0, 1) := by decide +kernel
theorem dX6_readSum_47 : decode cX6_readSum 47 = .ok (.iload_n 1, 1) := by decide +kernel
theorem dX6_readSum_48 : decode cX6_readSum 48 = .ok (.invokevirtual 76, 3) := by decide +kernel
theorem dX6_readSum_51 : decode cX6_readSum 51 = .ok (.aload_n 0, 1) := by decide +kernel
theorem dX6_readSum_52 : decode cX6_readSum 52 = .ok (.iload_n 3, 1) := by decide +kernel
theorem dX6_readSum_53 : decode cX6_readSum 53 = .ok (.ineg, 1) := by decide +kernel
theorem dX6_readSum_54 : decode cX6_readSum 54 = .ok (.invokevirtual 79, 3) := by decide +kernel
theorem dX6_readSum_57 : decode cX6_readSum 57 = .ok (.iinc 2 1, 3) := by decide +kernel
theorem dX6_readSum_60 : decode cX6_readSum 60 = .ok (.goto (-53), 3) := by decide +kernel
theorem dX6_readSum_63 : decode cX6_readSum 63 = .ok (.return_, 1) := by decide +kernel
theorem dX6_readProduct_0 : decode cX6_readProduct 0 = .ok (.aload_n 0, 1) := by decide +kernel
theorem dX6_readProduct_1 : decode cX6_readProduct 1 = .ok (.iload_n 1, 1) := by decide +kernel
theorem dX6_readProduct_2 : decode cX6_readProduct 2 = .ok (.invokevirtual 82, 3) := by decide +kernel
theorem dX6_readProduct_5 : decode cX6_readProduct 5 = .ok (.iconst 0, 1) := by decide +kernel
theorem dX6_readProduct_6 : decode cX6_readProduct 6 = .ok (.istore_n 2, 1) := by decide +kernel
theorem dX6_readProduct_7 : decode cX6_readProduct 7 = .ok (.iload_n 2, 1) := by decide +kernel
theorem dX6_readProduct_8 : decode cX6_readProduct 8 = .ok (.bipush 20, 2) := by decide +kernel
theorem dX6_readProduct_10 : decode cX6_readProduct 10 = .ok (.if_icmp .ge 53, 3) := by decide +kernel
theorem dX6_readProduct_13 : decode cX6_readProduct 13 = .ok (.aload_n 0, 1) := by decide +kernel
theorem dX6_readProduct_14 : decode cX6_readProduct 14 = .ok (.invokevirtual 31, 3) := by decide +kernel
theorem dX6_readProduct_17 : decode cX6_readProduct 17 = .ok (.bipush 42, 2) := by decide +kernel
theorem dX6_readProduct_19 : decode cX6_readProduct 19 = .ok (.if_icmp .eq 12, 3) := by decide +kernel
theorem dX6_readProduct_22 : decode cX6_readProduct 22 = .ok (.aload_n 0, 1) := by decide +kernel
theorem dX6_readProduct_23 : decode cX6_readProduct 23 = .ok (.invokevirtual 31, 3) := by decide +kernel
theorem dX6_readProduct_26 : decode cX6_readProduct 26 = .ok (.bipush 47, 2) := by decide +kernel
theorem dX6_readProduct_28 : decode cX6_readProduct 28 = .ok (.if_icmp .ne 35, 3) := by decide +kernel
theorem dX6_readProduct_31 : decode cX6_readProduct 31 = .ok (.aload_n 0, 1) := by decide +kernel
theorem dX6_readProduct_32 : decode cX6_readProduct 32 = .ok (.invokevirtual 31, 3) := by decide +kernel
theorem dX6_readProduct_35 : decode cX6_readProduct 35 = .ok (.istore_n 3, 1) := by decide +kernel
theorem dX6_readProduct_36 : decode cX6_readProduct 36 = .ok (.aload_n 0, 1) := by decide +kernel
theorem dX6_readProduct_37 : decode cX6_readProduct 37 = .ok (.dup, 1) := by decide +kernel
theorem dX6_readProduct_38 : decode cX6_readProduct 38 = .ok (.getfield 59, 3) := by decide +kernel
theorem dX6_readProduct_41 : decode cX6_readProduct 41 = .ok (.iconst 1, 1) := by decide +kernel
theorem dX6_readProduct_42 : decode cX6_readProduct 42 = .ok (.iadd, 1) := by decide +kernel
theorem dX6_readProduct_43 : decode cX6_readProduct 43 = .ok (.putfield 59, 3) := by decide +kernel
theorem dX6_readProduct_46 : decode cX6_readProduct 46 = .ok (.aload_n 0, 1) := by decide +kernel
theorem dX6_readProduct_47 : decode cX6_readProduct 47 = .ok (.iload_n 1, 1) := by decide +kernel
theorem dX6_readProduct_48 : decode cX6_readProduct 48 = .ok (.invokevirtual 82, 3) := by decide +kernel
theorem dX6_readProduct_51 : decode cX6_readProduct 51 = .ok (.aload_n 0, 1) := by decide +kernel
theorem dX6_readProduct_52 : decode cX6_readProduct 52 = .ok (.iload_n 3, 1) := by decide +kernel
theorem dX6_readProduct_53 : decode cX6_readProduct 53 = .ok (.ineg, 1) := by decide +kernel
theorem dX6_readProduct_54 : decode cX6_readProduct 54 = .ok (.invokevirtual 79, 3) := by decide +kernel
theorem dX6_readProduct_57 : decode cX6_readProduct 57 = .ok (.iinc 2 1, 3) := by decide +kernel
theorem dX6_readProduct_60 : decode cX6_readProduct 60 = .ok (.goto (-53), 3) := by decide +kernel
theorem dX6_readProduct_63 : decode cX6_readProduct 63 = .ok (.return_, 1) := by decide +kernel
theorem dX6_readAtom_0 : decode cX6_readAtom 0 = .ok (.aload_n 0, 1) := by decide +kernel
theorem dX6_readAtom_1 : decode cX6_readAtom 1 = .ok (.invokevirtual 31, 3) := by decide +kernel
theorem dX6_readAtom_4 : decode cX6_readAtom 4 = .ok (.bipush 40, 2) := by decide +kernel
theorem dX6_readAtom_6 : decode cX6_readAtom 6 = .ok (.if_icmp .ne 11, 3) := by decide +kernel
theorem dX6_readAtom_9 : decode cX6_readAtom 9 = .ok (.aload_n 0, 1) := by decide +kernel
theorem dX6_readAtom_10 : decode cX6_readAtom 10 = .ok (.iload_n 1, 1) := by decide +kernel
theorem dX6_readAtom_11 : decode cX6_readAtom 11 = .ok (.invokevirtual 85, 3) := by decide +kernel
theorem dX6_readAtom_14 : decode cX6_readAtom 14 = .ok (.goto 29, 3) := by decide +kernel
theorem dX6_readAtom_17 : decode cX6_readAtom 17 = .ok (.aload_n 0, 1) := by decide +kernel
theorem dX6_readAtom_18 : decode cX6_readAtom 18 = .ok (.invokevirtual 72, 3) := by decide +kernel
theorem dX6_readAtom_21 : decode cX6_readAtom 21 = .ok (.ifCond .eq 18, 3) := by decide +kernel
theorem dX6_readAtom_24 : decode cX6_readAtom 24 = .ok (.aload_n 0, 1) := by decide +kernel
theorem dX6_readAtom_25 : decode cX6_readAtom 25 = .ok (.aload_n 0, 1) := by decide +kernel
theorem dX6_readAtom_26 : decode cX6_readAtom 26 = .ok (.iconst 0, 1) := by decide +kernel
theorem dX6_readAtom_27 : decode cX6_readAtom 27 = .ok (.sipush 999, 3) := by decide +kernel
theorem dX6_readAtom_30 : decode cX6_readAtom 30 = .ok (.invokevirtual 68, 3) := by decide +kernel
theorem dX6_readAtom_33 : decode cX6_readAtom 33 = .ok (.invokevirtual 79, 3) := by decide +kernel
theorem dX6_readAtom_36 : decode cX6_readAtom 36 = .ok (.goto 7, 3) := by decide +kernel
theorem dX6_readAtom_39 : decode cX6_readAtom 39 = .ok (.aload_n 0, 1) := by decide +kernel
theorem dX6_readAtom_40 : decode cX6_readAtom 40 = .ok (.invokevirtual 88, 3) := by decide +kernel
theorem dX6_readAtom_43 : decode cX6_readAtom 43 = .ok (.return_, 1) := by decide +kernel
theorem dX6_readBracket_0 : decode cX6_readBracket 0 = .ok (.iload_n 1, 1) := by decide +kernel
theorem dX6_readBracket_1 : decode cX6_readBracket 1 = .ok (.iconst 4, 1) := by decide +kernel
theorem dX6_readBracket_2 : decode cX6_readBracket 2 = .ok (.if_icmp .lt 12, 3) := by decide +kernel
theorem dX6_readBracket_5 : decode cX6_readBracket 5 = .ok (.aload_n 0, 1) := by decide +kernel
theorem dX6_readBracket_6 : decode cX6_readBracket 6 = .ok (.aload_n 0, 1) := by decide +kernel
theorem dX6_readBracket_7 : decode cX6_readBracket 7 = .ok (.getfield 59, 3) := by decide +kernel
theorem dX6_readBracket_10 : decode cX6_readBracket 10 = .ok (.invokevirtual 62, 3) := by decide +kernel
theorem dX6_readBracket_13 : decode cX6_readBracket 13 = .ok (.return_, 1) := by decide +kernel
theorem dX6_readBracket_14 : decode cX6_readBracket 14 = .ok (.aload_n 0, 1) := by decide +kernel
theorem dX6_readBracket_15 : decode cX6_readBracket 15 = .ok (.dup, 1) := by decide +kernel
theorem dX6_readBracket_16 : decode cX6_readBracket 16 = .ok (.getfield 59, 3) := by decide +kernel
theorem dX6_readBracket_19 : decode cX6_readBracket 19 = .ok (.iconst 1, 1) := by decide +kernel
theorem dX6_readBracket_20 : decode cX6_readBracket 20 = .ok (.iadd, 1) := by decide +kernel
theorem dX6_readBracket_21 : decode cX6_readBracket 21 = .ok (.putfield 59, 3) := by decide +kernel
theorem dX6_readBracket_24 : decode cX6_readBracket 24 = .ok (.aload_n 0, 1) := by decide +kernel
theorem dX6_readBracket_25 : decode cX6_readBracket 25 = .ok (.iload_n 1, 1) := by decide +kernel
theorem dX6_readBracket_26 : decode cX6_readBracket 26 = .ok (.iconst 1, 1) := by decide +kernel
theorem dX6_readBracket_27 : decode cX6_readBracket 27 = .ok (.iadd, 1) := by decide +kernel
theorem dX6_readBracket_28 : decode cX6_readBracket 28 = .ok (.invokevirtual 49, 3) := by decide +kernel
theorem dX6_readBracket_31 : decode cX6_readBracket 31 = .ok (.aload_n 0, 1) := by decide +kernel
theorem dX6_readBracket_32 : decode cX6_readBracket 32 = .ok (.bipush 41, 2) := by decide +kernel
theorem dX6_readBracket_34 : decode cX6_readBracket 34 = .ok (.invokevirtual 65, 3) := by decide +kernel
theorem dX6_readBracket_37 : decode cX6_readBracket 37 = .ok (.return_, 1) := by decide +kernel
theorem dX6_readField_0 : decode cX6_readField 0 = .ok (.aload_n 0, 1) := by decide +kernel
theorem dX6_readField_1 : decode cX6_readField 1 = .ok (.invokevirtual 31, 3) := by decide +kernel
theorem dX6_readField_4 : decode cX6_readField 4 = .ok (.iconst (-1), 1) := by decide +kernel
theorem dX6_readField_5 : decode cX6_readField 5 = .ok (.if_icmp .ne 7, 3) := by decide +kernel
theorem dX6_readField_8 : decode cX6_readField 8 = .ok (.iconst (-1), 1) := by decide +kernel
theorem dX6_readField_9 : decode cX6_readField 9 = .ok (.goto 13, 3) := by decide +kernel
theorem dX6_readField_12 : decode cX6_readField 12 = .ok (.ldc 91, 2) := by decide +kernel
theorem dX6_readField_14 : decode cX6_readField 14 = .ok (.aload_n 0, 1) := by decide +kernel
theorem dX6_readField_15 : decode cX6_readField 15 = .ok (.invokevirtual 31, 3) := by decide +kernel
theorem dX6_readField_18 : decode cX6_readField 18 = .ok (.i2c, 1) := by decide +kernel
theorem dX6_readField_19 : decode cX6_readField 19 = .ok (.invokevirtual 93, 3) := by decide +kernel
theorem dX6_readField_22 : decode cX6_readField 22 = .ok (.istore_n 1, 1) := by decide +kernel
theorem dX6_readField_23 : decode cX6_readField 23 = .ok (.iload_n 1, 1) := by decide +kernel
theorem dX6_readField_24 : decode cX6_readField 24 = .ok (.ifCond .ge 12, 3) := by decide +kernel
theorem dX6_readField_27 : decode cX6_readField 27 = .ok (.aload_n 0, 1) := by decide +kernel
theorem dX6_readField_28 : decode cX6_readField 28 = .ok (.aload_n 0, 1) := by decide +kernel
theorem dX6_readField_29 : decode cX6_readField 29 = .ok (.getfield 59, 3) := by decide +kernel
theorem dX6_readField_32 : decode cX6_readField 32 = .ok (.invokevirtual 62, 3) := by decide +kernel
theorem dX6_readField_35 : decode cX6_readField 35 = .ok (.return_, 1) := by decide +kernel
theorem dX6_readField_36 : decode cX6_readField 36 = .ok (.aload_n 0, 1) := by decide +kernel
theorem dX6_readField_37 : decode cX6_readField 37 = .ok (.sipush 1000, 3) := by decide +kernel
theorem dX6_readField_40 : decode cX6_readField 40 = .ok (.iload_n 1, 1) := by decide +kernel
theorem dX6_readField_41 : decode cX6_readField 41 = .ok (.iadd, 1) := by decide +kernel
theorem dX6_readField_42 : decode cX6_readField 42 = .ok (.invokevirtual 79, 3) := by decide +kernel
theorem dX6_readField_45 : decode cX6_readField 45 = .ok (.aload_n 0, 1) := by decide +kernel
theorem dX6_readField_46 : decode cX6_readField 46 = .ok (.dup, 1) := by decide +kernel
theorem dX6_readField_47 : decode cX6_readField 47 = .ok (.getfield 59, 3) := by decide +kernel
theorem dX6_readField_50 : decode cX6_readField 50 = .ok (.iconst 1, 1) := by decide +kernel
theorem dX6_readField_51 : decode cX6_readField 51 = .ok (.iadd, 1) := by decide +kernel
theorem dX6_readField_52 : decode cX6_readField 52 = .ok (.putfield 59, 3) := by decide +kernel
theorem dX6_readField_55 : decode cX6_readField 55 = .ok (.return_, 1) := by decide +kernel
theorem dX6_write_0 : decode cX6_write 0 = .ok (.aload_n 0, 1) := by decide +kernel
theorem dX6_write_1 : decode cX6_write 1 = .ok (.getfield 46, 3) := by decide +kernel
theorem dX6_write_4 : decode cX6_write 4 = .ok (.ifCond .lt 35, 3) := by decide +kernel
theorem dX6_write_7 : decode cX6_write 7 = .ok (.aload_n 0, 1) := by decide +kernel
theorem dX6_write_8 : decode cX6_write 8 = .ok (.getfield 46, 3) := by decide +kernel
theorem dX6_write_11 : decode cX6_write 11 = .ok (.aload_n 0, 1) := by decide +kernel
theorem dX6_write_12 : decode cX6_write 12 = .ok (.getfield 15, 3) := by decide +kernel
theorem dX6_write_15 : decode cX6_write 15 = .ok (.arraylength, 1) := by decide +kernel
theorem dX6_write_16 : decode cX6_write 16 = .ok (.if_icmp .ge 23, 3) := by decide +kernel
theorem dX6_write_19 : decode cX6_write 19 = .ok (.aload_n 0, 1) := by decide +kernel
theorem dX6_write_20 : decode cX6_write 20 = .ok (.getfield 15, 3) := by decide +kernel
theorem dX6_write_23 : decode cX6_write 23 = .ok (.aload_n 0, 1) := by decide +kernel
theorem dX6_write_24 : decode cX6_write 24 = .ok (.getfield 46, 3) := by decide +kernel
theorem dX6_write_27 : decode cX6_write 27 = .ok (.iload_n 1, 1) := by decide +kernel
theorem dX6_write_28 : decode cX6_write 28 = .ok (.iastore, 1) := by decide +kernel
theorem dX6_write_29 : decode cX6_write 29 = .ok (.aload_n 0, 1) := by decide +kernel
theorem dX6_write_30 : decode cX6_write 30 = .ok (.dup, 1) := by decide +kernel
theorem dX6_write_31 : decode cX6_write 31 = .ok (.getfield 46, 3) := by decide +kernel
theorem dX6_write_34 : decode cX6_write 34 = .ok (.iconst 1, 1) := by decide +kernel
theorem dX6_write_35 : decode cX6_write 35 = .ok (.iadd, 1) := by decide +kernel
theorem dX6_write_36 : decode cX6_write 36 = .ok (.putfield 46, 3) := by decide +kernel
theorem dX6_write_39 : decode cX6_write 39 = .ok (.return_, 1) := by decide +kernel
theorem dX7_init_0 : decode cX7_init 0 = .ok (.aload_n 0, 1) := by decide +kernel
theorem dX7_init_1 : decode cX7_init 1 = .ok (.invokespecial 1, 3) := by decide +kernel
theorem dX7_init_4 : decode cX7_init 4 = .ok (.aload_n 0, 1) := by decide +kernel
theorem dX7_init_5 : decode cX7_init 5 = .ok (.new 7, 3) := by decide +kernel
theorem dX7_init_8 : decode cX7_init 8 = .ok (.dup, 1) := by decide +kernel
theorem dX7_init_9 : decode cX7_init 9 = .ok (.invokespecial 9, 3) := by decide +kernel
theorem dX7_init_12 : decode cX7_init 12 = .ok (.putfield 10, 3) := by decide +kernel
theorem dX7_init_15 : decode cX7_init 15 = .ok (.aload_n 0, 1) := by decide +kernel
theorem dX7_init_16 : decode cX7_init 16 = .ok (.bipush 7, 2) := by decide +kernel
theorem dX7_init_18 : decode cX7_init 18 = .ok (.newarray .int, 2) := by decide +kernel
theorem dX7_init_20 : decode cX7_init 20 = .ok (.putfield 16, 3) := by decide +kernel
theorem dX7_init_23 : decode cX7_init 23 = .ok (.aload_n 0, 1) := by decide +kernel
theorem dX7_init_24 : decode cX7_init 24 = .ok (.new 20, 3) := by decide +kernel
theorem dX7_init_27 : decode cX7_init 27 = .ok (.dup, 1) := by decide +kernel
theorem dX7_init_28 : decode cX7_init 28 = .ok (.invokespecial 22, 3) := by decide +kernel
theorem dX7_init_31 : decode cX7_init 31 = .ok (.putfield 23, 3) := by decide +kernel
theorem dX7_init_34 : decode cX7_init 34 = .ok (.aload_n 0, 1) := by decide +kernel
theorem dX7_init_35 : decode cX7_init 35 = .ok (.new 20, 3) := by decide +kernel
theorem dX7_init_38 : decode cX7_init 38 = .ok (.dup, 1) := by decide +kernel
theorem dX7_init_39 : decode cX7_init 39 = .ok (.invokespecial 22, 3) := by decide +kernel
theorem dX7_init_42 : decode cX7_init 42 = .ok (.putfield 27, 3) := by decide +kernel
theorem dX7_init_45 : decode cX7_init 45 = .ok (.aload_n 0, 1) := by decide +kernel
theorem dX7_init_46 : decode cX7_init 46 = .ok (.new 30, 3) := by decide +kernel
theorem dX7_init_49 : decode cX7_init 49 = .ok (.dup, 1) := by decide +kernel
theorem dX7_init_50 : decode cX7_init 50 = .ok (.aload_n 0, 1) := by decide +kernel
theorem dX7_init_51 : decode cX7_init 51 = .ok (.getfield 23, 3) := by decide +kernel
theorem dX7_init_54 : decode cX7_init 54 = .ok (.invokespecial 32, 3) := by decide +kernel
theorem dX7_init_57 : decode cX7_init 57 = .ok (.putfield 35, 3) := by decide +kernel
theorem dX7_init_60 : decode cX7_init 60 = .ok (.aload_n 0, 1) := by decide +kernel
theorem dX7_init_61 : decode cX7_init 61 = .ok (.iconst 0, 1) := by decide +kernel
theorem dX7_init_62 : decode cX7_init 62 = .ok (.putfield 39, 3) := by decide +kernel
theorem dX7_init_65 : decode cX7_init 65 = .ok (.return_, 1) := by decide +kernel
theorem dX7_feed_0 : decode cX7_feed 0 = .ok (.iload_n 1, 1) := by decide +kernel
theorem dX7_feed_1 : decode cX7_feed 1 = .ok (.iconst 1, 1) := by decide +kernel
theorem dX7_feed_2 : decode cX7_feed 2 = .ok (.if_icmp .ge 10, 3) := by decide +kernel
theorem dX7_feed_5 : decode cX7_feed 5 = .ok (.aload_n 0, 1) := by decide +kernel
theorem dX7_feed_6 : decode cX7_feed 6 = .ok (.bipush (-4), 2) := by decide +kernel
theorem dX7_feed_8 : decode cX7_feed 8 = .ok (.invokevirtual 43, 3) := by decide +kernel
theorem dX7_feed_11 : decode cX7_feed 11 = .ok (.ireturn, 1) := by decide +kernel
theorem dX7_feed_12 : decode cX7_feed 12 = .ok (.iload_n 1, 1) := by decide +kernel
theorem dX7_feed_13 : decode cX7_feed 13 = .ok (.bipush 8, 2) := by decide +kernel
theorem dX7_feed_15 : decode cX7_feed 15 = .ok (.if_icmp .gt 17, 3) := by decide +kernel
theorem dX7_feed_18 : decode cX7_feed 18 = .ok (.aload_n 0, 1) := by decide +kernel
theorem dX7_feed_19 : decode cX7_feed 19 = .ok (.getfield 10, 3) := by decide +kernel
theorem dX7_feed_22 : decode cX7_feed 22 = .ok (.getfield 47, 3) := by decide +kernel
theorem dX7_feed_25 : decode cX7_feed 25 = .ok (.iload_n 1, 1) := by decide +kernel
theorem dX7_feed_26 : decode cX7_feed 26 = .ok (.iadd, 1) := by decide +kernel
theorem dX7_feed_27 : decode cX7_feed 27 = .ok (.bipush 20, 2) := by decide +kernel
theorem dX7_feed_29 : decode cX7_feed 29 = .ok (.if_icmp .le 10, 3) := by decide +kernel
theorem dX7_feed_32 : decode cX7_feed 32 = .ok (.aload_n 0, 1) := by decide +kernel
theorem dX7_feed_33 : decode cX7_feed 33 = .ok (.bipush (-6), 2) := by decide +kernel
theorem dX7_feed_35 : decode cX7_feed 35 = .ok (.invokevirtual 43, 3) := by decide +kernel
theorem dX7_feed_38 : decode cX7_feed 38 = .ok (.ireturn, 1) := by decide +kernel
theorem dX7_feed_39 : decode cX7_feed 39 = .ok (.aload_n 0, 1) := by decide +kernel
theorem dX7_feed_40 : decode cX7_feed 40 = .ok (.getfield 10, 3) := by decide +kernel
theorem dX7_feed_43 : decode cX7_feed 43 = .ok (.iload_n 1, 1) := by decide +kernel
theorem dX7_feed_44 : decode cX7_feed 44 = .ok (.lload_n 2, 1) := by decide +kernel
theorem dX7_feed_45 : decode cX7_feed 45 = .ok (.invokevirtual 51, 3) := by decide +kernel
theorem dX7_feed_48 : decode cX7_feed 48 = .ok (.aload_n 0, 1) := by decide +kernel
theorem dX7_feed_49 : decode cX7_feed 49 = .ok (.getfield 10, 3) := by decide +kernel
theorem dX7_feed_52 : decode cX7_feed 52 = .ok (.getfield 47, 3) := by decide +kernel
theorem dX7_feed_55 : decode cX7_feed 55 = .ok (.ireturn, 1) := by decide +kernel
theorem dX7_plate_0 : decode cX7_plate 0 = .ok (.aload_n 0, 1) := by decide +kernel
theorem dX7_plate_1 : decode cX7_plate 1 = .ok (.getfield 23, 3) := by decide +kernel
theorem dX7_plate_4 : decode cX7_plate 4 = .ok (.getfield 55, 3) := by decide +kernel
theorem dX7_plate_7 : decode cX7_plate 7 = .ok (.bipush 6, 2) := by decide +kernel
theorem dX7_plate_9 : decode cX7_plate 9 = .ok (.if_icmp .lt 10, 3) := by decide +kernel
theorem dX7_plate_12 : decode cX7_plate 12 = .ok (.aload_n 0, 1) := by decide +kernel
theorem dX7_plate_13 : decode cX7_plate 13 = .ok (.bipush (-6), 2) := by decide +kernel
theorem dX7_plate_15 : decode cX7_plate 15 = .ok (.invokevirtual 43, 3) := by decide +kernel
theorem dX7_plate_18 : decode cX7_plate 18 = .ok (.ireturn, 1) := by decide +kernel
theorem dX7_plate_19 : decode cX7_plate 19 = .ok (.aload_n 0, 1) := by decide +kernel
theorem dX7_plate_20 : decode cX7_plate 20 = .ok (.getfield 10, 3) := by decide +kernel
theorem dX7_plate_23 : decode cX7_plate 23 = .ok (.invokevirtual 58, 3) := by decide +kernel
theorem dX7_plate_26 : decode cX7_plate 26 = .ok (.astore_n 1, 1) := by decide +kernel
theorem dX7_plate_27 : decode cX7_plate 27 = .ok (.aload_n 0, 1) := by decide +kernel
theorem dX7_plate_28 : decode cX7_plate 28 = .ok (.getfield 10, 3) := by decide +kernel
theorem dX7_plate_31 : decode cX7_plate 31 = .ok (.iconst 0, 1) := by decide +kernel
theorem dX7_plate_32 : decode cX7_plate 32 = .ok (.putfield 47, 3) := by decide +kernel
theorem dX7_plate_35 : decode cX7_plate 35 = .ok (.aload_n 1, 1) := by decide +kernel
theorem dX7_plate_36 : decode cX7_plate 36 = .ok (.ifnonnull 16, 3) := by decide +kernel
theorem dX7_plate_39 : decode cX7_plate 39 = .ok (.bipush (-20), 2) := by decide +kernel
theorem dX7_plate_41 : decode cX7_plate 41 = .ok (.aload_n 0, 1) := by decide +kernel
theorem dX7_plate_42 : decode cX7_plate 42 = .ok (.getfield 10, 3) := by decide +kernel
theorem dX7_plate_45 : decode cX7_plate 45 = .ok (.getfield 62, 3) := by decide +kernel
theorem dX7_plate_48 : decode cX7_plate 48 = .ok (.isub, 1) := by decide +kernel
theorem dX7_plate_49 : decode cX7_plate 49 = .ok (.goto 11, 3) := by decide +kernel
theorem dX7_plate_52 : decode cX7_plate 52 = .ok (.aload_n 0, 1) := by decide +kernel
theorem dX7_plate_53 : decode cX7_plate 53 = .ok (.getfield 23, 3) := by decide +kernel
theorem dX7_plate_56 : decode cX7_plate 56 = .ok (.aload_n 1, 1) := by decide +kernel
theorem dX7_plate_57 : decode cX7_plate 57 = .ok (.invokevirtual 65, 3) := by decide +kernel
theorem dX7_plate_60 : decode cX7_plate 60 = .ok (.ireturn, 1) := by decide +kernel
theorem dX7_plateOf_0 : decode cX7_plateOf 0 = .ok (.aload_n 0, 1) := by decide +kernel
theorem dX7_plateOf_1 : decode cX7_plateOf 1 = .ok (.getfield 23, 3) := by decide +kernel
theorem dX7_plateOf_4 : decode cX7_plateOf 4 = .ok (.iload_n 1, 1) := by decide +kernel
theorem dX7_plateOf_5 : decode cX7_plateOf 5 = .ok (.invokevirtual 69, 3) := by decide +kernel
theorem dX7_plateOf_8 : decode cX7_plateOf 8 = .ok (.astore_n 3, 1) := by decide +kernel
theorem dX7_plateOf_9 : decode cX7_plateOf 9 = .ok (.aload_n 3, 1) := by decide +kernel
theorem dX7_plateOf_10 : decode cX7_plateOf 10 = .ok (.ifnonnull 9, 3) := by decide +kernel
theorem dX7_plateOf_13 : decode cX7_plateOf 13 = .ok (.aload_n 0, 1) := by decide +kernel
theorem dX7_plateOf_14 : decode cX7_plateOf 14 = .ok (.iconst (-1), 1) := by decide +kernel
theorem dX7_plateOf_15 : decode cX7_plateOf 15 = .ok (.invokevirtual 43, 3) := by decide +kernel
theorem dX7_plateOf_18 : decode cX7_plateOf 18 = .ok (.ireturn, 1) := by decide +kernel
theorem dX7_plateOf_19 : decode cX7_plateOf 19 = .ok (.iload_n 2, 1) := by decide +kernel
theorem dX7_plateOf_20 : decode cX7_plateOf 20 = .ok (.tableswitch 61 0 4 #[36, 41, 46, 51, 56], 36) := by decide +kernel
theorem dX7_plateOf_56 : decode cX7_plateOf 56 = .ok (.aload_n 3, 1) := by decide +kernel
theorem dX7_plateOf_57 : decode cX7_plateOf 57 = .ok (.getfield 73, 3) := by decide +kernel
theorem dX7_plateOf_60 : decode cX7_plateOf 60 = .ok (.ireturn, 1) := by decide +kernel
theorem dX7_plateOf_61 : decode cX7_plateOf 61 = .ok (.aload_n 3, 1) := by decide +kernel
theorem dX7_plateOf_62 : decode cX7_plateOf 62 = .ok (.getfield 78, 3) := by decide +kernel
theorem dX7_plateOf_65 : decode cX7_plateOf 65 = .ok (.ireturn, 1) := by decide +kernel
theorem dX7_plateOf_66 : decode cX7_plateOf 66 = .ok (.aload_n 3, 1) := by decide +kernel
theorem dX7_plateOf_67 : decode cX7_plateOf 67 = .ok (.getfield 81, 3) := by decide +kernel
theorem dX7_plateOf_70 : decode cX7_plateOf 70 = .ok (.ireturn, 1) := by decide +kernel
theorem dX7_plateOf_71 : decode cX7_plateOf 71 = .ok (.aload_n 3, 1) := by decide +kernel
theorem dX7_plateOf_72 : decode cX7_plateOf 72 = .ok (.getfield 84, 3) := by decide +kernel
theorem dX7_plateOf_75 : decode cX7_plateOf 75 = .ok (.ireturn, 1) := by decide +kernel
theorem dX7_plateOf_76 : decode cX7_plateOf 76 = .ok (.aload_n 3, 1) := by decide +kernel
theorem dX7_plateOf_77 : decode cX7_plateOf 77 = .ok (.getfield 87, 3) := by decide +kernel
theorem dX7_plateOf_80 : decode cX7_plateOf 80 = .ok (.ireturn, 1) := by decide +kernel
theorem dX7_plateOf_81 : decode cX7_plateOf 81 = .ok (.aload_n 0, 1) := by decide +kernel
theorem dX7_plateOf_82 : decode cX7_plateOf 82 = .ok (.bipush (-2), 2) := by decide +kernel
theorem dX7_plateOf_84 : decode cX7_plateOf 84 = .ok (.invokevirtual 43, 3) := by decide +kernel
theorem dX7_plateOf_87 : decode cX7_plateOf 87 = .ok (.ireturn, 1) := by decide +kernel
theorem dX7_loss_0 : decode cX7_loss 0 = .ok (.iload_n 1, 1) := by decide +kernel
theorem dX7_loss_1 : decode cX7_loss 1 = .ok (.ifCond .lt 9, 3) := by decide +kernel
theorem dX7_loss_4 : decode cX7_loss 4 = .ok (.iload_n 1, 1) := by decide +kernel
theorem dX7_loss_5 : decode cX7_loss 5 = .ok (.bipush 6, 2) := by decide +kernel
theorem dX7_loss_7 : decode cX7_loss 7 = .ok (.if_icmp .le 9, 3) := by decide +kernel
theorem dX7_loss_10 : decode cX7_loss 10 = .ok (.aload_n 0, 1) := by decide +kernel
theorem dX7_loss_11 : decode cX7_loss 11 = .ok (.iconst (-1), 1) := by decide +kernel
theorem dX7_loss_12 : decode cX7_loss 12 = .ok (.invokevirtual 43, 3) := by decide +kernel
theorem dX7_loss_15 : decode cX7_loss 15 = .ok (.ireturn, 1) := by decide +kernel
theorem dX7_loss_16 : decode cX7_loss 16 = .ok (.iload_n 2, 1) := by decide +kernel
theorem dX7_loss_17 : decode cX7_loss 17 = .ok (.ifCond .lt 7, 3) := by decide +kernel
theorem dX7_loss_20 : decode cX7_loss 20 = .ok (.iload_n 3, 1) := by decide +kernel
theorem dX7_loss_21 : decode cX7_loss 21 = .ok (.ifCond .ge 10, 3) := by decide +kernel
theorem dX7_loss_24 : decode cX7_loss 24 = .ok (.aload_n 0, 1) := by decide +kernel
theorem dX7_loss_25 : decode cX7_loss 25 = .ok (.bipush (-4), 2) := by decide +kernel
theorem dX7_loss_27 : decode cX7_loss 27 = .ok (.invokevirtual 43, 3) := by decide +kernel
theorem dX7_loss_30 : decode cX7_loss 30 = .ok (.ireturn, 1) := by decide +kernel
theorem dX7_loss_31 : decode cX7_loss 31 = .ok (.iload_n 2, 1) := by decide +kernel
theorem dX7_loss_32 : decode cX7_loss 32 = .ok (.sipush 9999, 3) := by decide +kernel
theorem dX7_loss_35 : decode cX7_loss 35 = .ok (.if_icmp .gt 22, 3) := by decide +kernel
theorem dX7_loss_38 : decode cX7_loss 38 = .ok (.iload_n 3, 1) := by decide +kernel
theorem dX7_loss_39 : decode cX7_loss 39 = .ok (.sipush 9999, 3) := by decide +kernel
theorem dX7_loss_42 : decode cX7_loss 42 = .ok (.if_icmp .gt 15, 3) := by decide +kernel
theorem dX7_loss_45 : decode cX7_loss 45 = .ok (.aload_n 0, 1) := by decide +kernel
theorem dX7_loss_46 : decode cX7_loss 46 = .ok (.getfield 23, 3) := by decide +kernel
theorem dX7_loss_49 : decode cX7_loss 49 = .ok (.getfield 90, 3) := by decide +kernel
theorem dX7_loss_52 : decode cX7_loss 52 = .ok (.bipush 8, 2) := by decide +kernel
theorem dX7_loss_54 : decode cX7_loss 54 = .ok (.if_icmp .lt 10, 3) := by decide +kernel
theorem dX7_loss_57 : decode cX7_loss 57 = .ok (.aload_n 0, 1) := by decide +kernel
theorem dX7_loss_58 : decode cX7_loss 58 = .ok (.bipush (-6), 2) := by decide +kernel
theorem dX7_loss_60 : decode cX7_loss 60 = .ok (.invokevirtual 43, 3) := by decide +kernel
theorem dX7_loss_63 : decode cX7_loss 63 = .ok (.ireturn, 1) := by decide +kernel
theorem dX7_loss_64 : decode cX7_loss 64 = .ok (.iload_n 1, 1) := by decide +kernel
theorem dX7_loss_65 : decode cX7_loss 65 = .ok (.bipush 6, 2) := by decide +kernel
theorem dX7_loss_67 : decode cX7_loss 67 = .ok (.if_icmp .ne 15, 3) := by decide +kernel
theorem dX7_loss_70 : decode cX7_loss 70 = .ok (.iload_n 2, 1) := by decide +kernel
theorem dX7_loss_71 : decode cX7_loss 71 = .ok (.iload_n 3, 1) := by decide +kernel
theorem dX7_loss_72 : decode cX7_loss 72 = .ok (.if_icmp .le 10, 3) := by decide +kernel
theorem dX7_loss_75 : decode cX7_loss 75 = .ok (.aload_n 0, 1) := by decide +kernel
theorem dX7_loss_76 : decode cX7_loss 76 = .ok (.bipush (-3), 2) := by decide +kernel
theorem dX7_loss_78 : decode cX7_loss 78 = .ok (.invokevirtual 43, 3) := by decide +kernel
theorem dX7_loss_81 : decode cX7_loss 81 = .ok (.ireturn, 1) := by decide +kernel
theorem dX7_loss_82 : decode cX7_loss 82 = .ok (.aload_n 0, 1) := by decide +kernel
theorem dX7_loss_83 : decode cX7_loss 83 = .ok (.getfield 10, 3) := by decide +kernel
theorem dX7_loss_86 : decode cX7_loss 86 = .ok (.invokevirtual 93, 3) := by decide +kernel
theorem dX7_loss_89 : decode cX7_loss 89 = .ok (.astore 4, 2) := by decide +kernel
theorem dX7_loss_91 : decode cX7_loss 91 = .ok (.aload_n 0, 1) := by decide +kernel
theorem dX7_loss_92 : decode cX7_loss 92 = .ok (.getfield 10, 3) := by decide +kernel
theorem dX7_loss_95 : decode cX7_loss 95 = .ok (.iconst 0, 1) := by decide +kernel
theorem dX7_loss_96 : decode cX7_loss 96 = .ok (.putfield 47, 3) := by decide +kernel
theorem dX7_loss_99 : decode cX7_loss 99 = .ok (.aload 4, 2) := by decide +kernel
theorem dX7_loss_101 : decode cX7_loss 101 = .ok (.ifnonnull 16, 3) := by decide +kernel
theorem dX7_loss_104 : decode cX7_loss 104 = .ok (.bipush (-20), 2) := by decide +kernel
theorem dX7_loss_106 : decode cX7_loss 106 = .ok (.aload_n 0, 1) := by decide +kernel
theorem dX7_loss_107 : decode cX7_loss 107 = .ok (.getfield 10, 3) := by decide +kernel
theorem dX7_loss_110 : decode cX7_loss 110 = .ok (.getfield 62, 3) := by decide +kernel
theorem dX7_loss_113 : decode cX7_loss 113 = .ok (.isub, 1) := by decide +kernel
theorem dX7_loss_114 : decode cX7_loss 114 = .ok (.goto 22, 3) := by decide +kernel
theorem dX7_loss_117 : decode cX7_loss 117 = .ok (.aload_n 0, 1) := by decide +kernel
theorem dX7_loss_118 : decode cX7_loss 118 = .ok (.getfield 23, 3) := by decide +kernel
theorem dX7_loss_121 : decode cX7_loss 121 = .ok (.new 97, 3) := by decide +kernel
theorem dX7_loss_124 : decode cX7_loss 124 = .ok (.dup, 1) := by decide +kernel
theorem dX7_loss_125 : decode cX7_loss 125 = .ok (.iload_n 1, 1) := by decide +kernel
theorem dX7_loss_126 : decode cX7_loss 126 = .ok (.iload_n 2, 1) := by decide +kernel
theorem dX7_loss_127 : decode cX7_loss 127 = .ok (.iload_n 3, 1) := by decide +kernel
theorem dX7_loss_128 : decode cX7_loss 128 = .ok (.aload 4, 2) := by decide +kernel
theorem dX7_loss_130 : decode cX7_loss 130 = .ok (.invokespecial 99, 3) := by decide +kernel
theorem dX7_loss_133 : decode cX7_loss 133 = .ok (.invokevirtual 102, 3) := by decide +kernel
theorem dX7_loss_136 : decode cX7_loss 136 = .ok (.ireturn, 1) := by decide +kernel
theorem dX7_lossOf_0 : decode cX7_lossOf 0 = .ok (.aload_n 0, 1) := by decide +kernel
theorem dX7_lossOf_1 : decode cX7_lossOf 1 = .ok (.getfield 23, 3) := by decide +kernel
theorem dX7_lossOf_4 : decode cX7_lossOf 4 = .ok (.iload_n 1, 1) := by decide +kernel
theorem dX7_lossOf_5 : decode cX7_lossOf 5 = .ok (.invokevirtual 106, 3) := by decide +kernel
theorem dX7_lossOf_8 : decode cX7_lossOf 8 = .ok (.astore_n 3, 1) := by decide +kernel
theorem dX7_lossOf_9 : decode cX7_lossOf 9 = .ok (.aload_n 3, 1) := by decide +kernel
theorem dX7_lossOf_10 : decode cX7_lossOf 10 = .ok (.ifnonnull 9, 3) := by decide +kernel
theorem dX7_lossOf_13 : decode cX7_lossOf 13 = .ok (.aload_n 0, 1) := by decide +kernel
theorem dX7_lossOf_14 : decode cX7_lossOf 14 = .ok (.iconst (-1), 1) := by decide +kernel
theorem dX7_lossOf_15 : decode cX7_lossOf 15 = .ok (.invokevirtual 43, 3) := by decide +kernel
theorem dX7_lossOf_18 : decode cX7_lossOf 18 = .ok (.ireturn, 1) := by decide +kernel
theorem dX7_lossOf_19 : decode cX7_lossOf 19 = .ok (.iload_n 2, 1) := by decide +kernel
theorem dX7_lossOf_20 : decode cX7_lossOf 20 = .ok (.tableswitch 59 0 3 #[32, 37, 42, 47], 32) := by decide +kernel
theorem dX7_lossOf_52 : decode cX7_lossOf 52 = .ok (.aload_n 3, 1) := by decide +kernel
theorem dX7_lossOf_53 : decode cX7_lossOf 53 = .ok (.getfield 110, 3) := by decide +kernel
theorem dX7_lossOf_56 : decode cX7_lossOf 56 = .ok (.ireturn, 1) := by decide +kernel
theorem dX7_lossOf_57 : decode cX7_lossOf 57 = .ok (.aload_n 3, 1) := by decide +kernel
theorem dX7_lossOf_58 : decode cX7_lossOf 58 = .ok (.getfield 113, 3) := by decide +kernel
theorem dX7_lossOf_61 : decode cX7_lossOf 61 = .ok (.ireturn, 1) := by decide +kernel
theorem dX7_lossOf_62 : decode cX7_lossOf 62 = .ok (.aload_n 3, 1) := by decide +kernel
theorem dX7_lossOf_63 : decode cX7_lossOf 63 = .ok (.getfield 116, 3) := by decide +kernel
theorem dX7_lossOf_66 : decode cX7_lossOf 66 = .ok (.ireturn, 1) := by decide +kernel
theorem dX7_lossOf_67 : decode cX7_lossOf 67 = .ok (.aload_n 0, 1) := by decide +kernel
theorem dX7_lossOf_68 : decode cX7_lossOf 68 = .ok (.getfield 23, 3) := by decide +kernel
theorem dX7_lossOf_71 : decode cX7_lossOf 71 = .ok (.getfield 119, 3) := by decide +kernel
theorem dX7_lossOf_74 : decode cX7_lossOf 74 = .ok (.iload_n 1, 1) := by decide +kernel
theorem dX7_lossOf_75 : decode cX7_lossOf 75 = .ok (.invokevirtual 123, 3) := by decide +kernel
theorem dX7_lossOf_78 : decode cX7_lossOf 78 = .ok (.ireturn, 1) := by decide +kernel
theorem dX7_lossOf_79 : decode cX7_lossOf 79 = .ok (.aload_n 0, 1) := by decide +kernel
theorem dX7_lossOf_80 : decode cX7_lossOf 80 = .ok (.bipush (-2), 2) := by decide +kernel
theorem dX7_lossOf_82 : decode cX7_lossOf 82 = .ok (.invokevirtual 43, 3) := by decide +kernel
theorem dX7_lossOf_85 : decode cX7_lossOf 85 = .ok (.ireturn, 1) := by decide +kernel
theorem dX7_floor_0 : decode cX7_floor 0 = .ok (.iload_n 1, 1) := by decide +kernel
theorem dX7_floor_1 : decode cX7_floor 1 = .ok (.invokestatic 128, 3) := by decide +kernel
theorem dX7_floor_4 : decode cX7_floor 4 = .ok (.ifCond .ne 9, 3) := by decide +kernel
theorem dX7_floor_7 : decode cX7_floor 7 = .ok (.aload_n 0, 1) := by decide +kernel
theorem dX7_floor_8 : decode cX7_floor 8 = .ok (.iconst (-1), 1) := by decide +kernel
theorem dX7_floor_9 : decode cX7_floor 9 = .ok (.invokevirtual 43, 3) := by decide +kernel
theorem dX7_floor_12 : decode cX7_floor 12 = .ok (.ireturn, 1) := by decide +kernel
theorem dX7_floor_13 : decode cX7_floor 13 = .ok (.iload_n 2, 1) := by decide +kernel
theorem dX7_floor_14 : decode cX7_floor 14 = .ok (.invokestatic 132, 3) := by decide +kernel
theorem dX7_floor_17 : decode cX7_floor 17 = .ok (.ifCond .ne 10, 3) := by decide +kernel
theorem dX7_floor_20 : decode cX7_floor 20 = .ok (.aload_n 0, 1) := by decide +kernel
theorem dX7_floor_21 : decode cX7_floor 21 = .ok (.bipush (-2), 2) := by decide +kernel
theorem dX7_floor_23 : decode cX7_floor 23 = .ok (.invokevirtual 43, 3) := by decide +kernel
theorem dX7_floor_26 : decode cX7_floor 26 = .ok (.ireturn, 1) := by decide +kernel
theorem dX7_floor_27 : decode cX7_floor 27 = .ok (.iload_n 3, 1) := by decide +kernel
theorem dX7_floor_28 : decode cX7_floor 28 = .ok (.ifCond .ge 10, 3) := by decide +kernel
theorem dX7_floor_31 : decode cX7_floor 31 = .ok (.aload_n 0, 1) := by decide +kernel
theorem dX7_floor_32 : decode cX7_floor 32 = .ok (.bipush (-4), 2) := by decide +kernel
theorem dX7_floor_34 : decode cX7_floor 34 = .ok (.invokevirtual 43, 3) := by decide +kernel
theorem dX7_floor_37 : decode cX7_floor 37 = .ok (.ireturn, 1) := by decide +kernel
theorem dX7_floor_38 : decode cX7_floor 38 = .ok (.iload_n 3, 1) := by decide +kernel
theorem dX7_floor_39 : decode cX7_floor 39 = .ok (.bipush 9, 2) := by decide +kernel
theorem dX7_floor_41 : decode cX7_floor 41 = .ok (.if_icmp .le 10, 3) := by decide +kernel
theorem dX7_floor_44 : decode cX7_floor 44 = .ok (.aload_n 0, 1) := by decide +kernel
theorem dX7_floor_45 : decode cX7_floor 45 = .ok (.bipush (-6), 2) := by decide +kernel
theorem dX7_floor_47 : decode cX7_floor 47 = .ok (.invokevirtual 43, 3) := by decide +kernel
theorem dX7_floor_50 : decode cX7_floor 50 = .ok (.ireturn, 1) := by decide +kernel
theorem dX7_floor_51 : decode cX7_floor 51 = .ok (.iload_n 2, 1) := by decide +kernel
theorem dX7_floor_52 : decode cX7_floor 52 = .ok (.ifCond .ne 13, 3) := by decide +kernel
theorem dX7_floor_55 : decode cX7_floor 55 = .ok (.aload_n 0, 1) := by decide +kernel
theorem dX7_floor_56 : decode cX7_floor 56 = .ok (.getfield 23, 3) := by decide +kernel
theorem dX7_floor_59 : decode cX7_floor 59 = .ok (.getfield 135, 3) := by decide +kernel
theorem dX7_floor_62 : decode cX7_floor 62 = .ok (.goto 10, 3) := by decide +kernel
theorem dX7_floor_65 : decode cX7_floor 65 = .ok (.aload_n 0, 1) := by decide +kernel
theorem dX7_floor_66 : decode cX7_floor 66 = .ok (.getfield 23, 3) := by decide +kernel
theorem dX7_floor_69 : decode cX7_floor 69 = .ok (.getfield 138, 3) := by decide +kernel
theorem dX7_floor_72 : decode cX7_floor 72 = .ok (.astore 4, 2) := by decide +kernel
theorem dX7_floor_74 : decode cX7_floor 74 = .ok (.aload 4, 2) := by decide +kernel
theorem dX7_floor_76 : decode cX7_floor 76 = .ok (.iload_n 1, 1) := by decide +kernel
theorem dX7_floor_77 : decode cX7_floor 77 = .ok (.iaload, 1) := by decide +kernel
theorem dX7_floor_78 : decode cX7_floor 78 = .ok (.istore 5, 2) := by decide +kernel
theorem dX7_floor_80 : decode cX7_floor 80 = .ok (.aload 4, 2) := by decide +kernel
theorem dX7_floor_82 : decode cX7_floor 82 = .ok (.iload_n 1, 1) := by decide +kernel
theorem dX7_floor_83 : decode cX7_floor 83 = .ok (.iload_n 3, 1) := by decide +kernel
theorem dX7_floor_84 : decode cX7_floor 84 = .ok (.iastore, 1) := by decide +kernel
theorem dX7_floor_85 : decode cX7_floor 85 = .ok (.iload 5, 2) := by decide +kernel
theorem dX7_floor_87 : decode cX7_floor 87 = .ok (.ireturn, 1) := by decide +kernel
theorem dX7_air_0 : decode cX7_air 0 = .ok (.aload_n 0, 1) := by decide +kernel
theorem dX7_air_1 : decode cX7_air 1 = .ok (.getfield 23, 3) := by decide +kernel
theorem dX7_air_4 : decode cX7_air 4 = .ok (.getfield 141, 3) := by decide +kernel
theorem dX7_air_7 : decode cX7_air 7 = .ok (.iload_n 1, 1) := by decide +kernel
theorem dX7_air_8 : decode cX7_air 8 = .ok (.if_icmp .ne 7, 3) := by decide +kernel
theorem dX7_air_11 : decode cX7_air 11 = .ok (.iconst 0, 1) := by decide +kernel
theorem dX7_air_12 : decode cX7_air 12 = .ok (.goto 4, 3) := by decide +kernel
theorem dX7_air_15 : decode cX7_air 15 = .ok (.iconst 1, 1) := by decide +kernel
theorem dX7_air_16 : decode cX7_air 16 = .ok (.istore_n 2, 1) := by decide +kernel
theorem dX7_air_17 : decode cX7_air 17 = .ok (.aload_n 0, 1) := by decide +kernel
theorem dX7_air_18 : decode cX7_air 18 = .ok (.getfield 23, 3) := by decide +kernel
theorem dX7_air_21 : decode cX7_air 21 = .ok (.iload_n 1, 1) := by decide +kernel
theorem dX7_air_22 : decode cX7_air 22 = .ok (.putfield 141, 3) := by decide +kernel
theorem dX7_air_25 : decode cX7_air 25 = .ok (.iload_n 2, 1) := by decide +kernel
theorem dX7_air_26 : decode cX7_air 26 = .ok (.ireturn, 1) := by decide +kernel
theorem dX7_toneAt_0 : decode cX7_toneAt 0 = .ok (.aload_n 0, 1) := by decide +kernel
theorem dX7_toneAt_1 : decode cX7_toneAt 1 = .ok (.getfield 23, 3) := by decide +kernel
theorem dX7_toneAt_4 : decode cX7_toneAt 4 = .ok (.iload_n 1, 1) := by decide +kernel
theorem dX7_toneAt_5 : decode cX7_toneAt 5 = .ok (.invokevirtual 69, 3) := by decide +kernel
theorem dX7_toneAt_8 : decode cX7_toneAt 8 = .ok (.astore_n 3, 1) := by decide +kernel
theorem dX7_toneAt_9 : decode cX7_toneAt 9 = .ok (.aload_n 3, 1) := by decide +kernel
theorem dX7_toneAt_10 : decode cX7_toneAt 10 = .ok (.ifnonnull 9, 3) := by decide +kernel
theorem dX7_toneAt_13 : decode cX7_toneAt 13 = .ok (.aload_n 0, 1) := by decide +kernel
theorem dX7_toneAt_14 : decode cX7_toneAt 14 = .ok (.iconst (-1), 1) := by decide +kernel
theorem dX7_toneAt_15 : decode cX7_toneAt 15 = .ok (.invokevirtual 43, 3) := by decide +kernel
theorem dX7_toneAt_18 : decode cX7_toneAt 18 = .ok (.ireturn, 1) := by decide +kernel
theorem dX7_toneAt_19 : decode cX7_toneAt 19 = .ok (.iload_n 2, 1) := by decide +kernel
theorem dX7_toneAt_20 : decode cX7_toneAt 20 = .ok (.invokestatic 144, 3) := by decide +kernel
theorem dX7_toneAt_23 : decode cX7_toneAt 23 = .ok (.istore 4, 2) := by decide +kernel
theorem dX7_toneAt_25 : decode cX7_toneAt 25 = .ok (.iload 4, 2) := by decide +kernel
theorem dX7_toneAt_27 : decode cX7_toneAt 27 = .ok (.ifCond .eq 12, 3) := by decide +kernel
theorem dX7_toneAt_30 : decode cX7_toneAt 30 = .ok (.aload_n 0, 1) := by decide +kernel
theorem dX7_toneAt_31 : decode cX7_toneAt 31 = .ok (.iload 4, 2) := by decide +kernel
theorem dX7_toneAt_33 : decode cX7_toneAt 33 = .ok (.invokevirtual 43, 3) := by decide +kernel
theorem dX7_toneAt_36 : decode cX7_toneAt 36 = .ok (.goto 15, 3) := by decide +kernel
theorem dX7_toneAt_39 : decode cX7_toneAt 39 = .ok (.iload_n 2, 1) := by decide +kernel
theorem dX7_toneAt_40 : decode cX7_toneAt 40 = .ok (.aload_n 3, 1) := by decide +kernel
theorem dX7_toneAt_41 : decode cX7_toneAt 41 = .ok (.getfield 78, 3) := by decide +kernel
theorem dX7_toneAt_44 : decode cX7_toneAt 44 = .ok (.aload_n 3, 1) := by decide +kernel
theorem dX7_toneAt_45 : decode cX7_toneAt 45 = .ok (.getfield 87, 3) := by decide +kernel
theorem dX7_toneAt_48 : decode cX7_toneAt 48 = .ok (.invokestatic 147, 3) := by decide +kernel
theorem dX7_toneAt_51 : decode cX7_toneAt 51 = .ok (.ireturn, 1) := by decide +kernel
theorem dX7_takes_0 : decode cX7_takes 0 = .ok (.aload_n 0, 1) := by decide +kernel
theorem dX7_takes_1 : decode cX7_takes 1 = .ok (.getfield 23, 3) := by decide +kernel
theorem dX7_takes_4 : decode cX7_takes 4 = .ok (.iload_n 1, 1) := by decide +kernel
theorem dX7_takes_5 : decode cX7_takes 5 = .ok (.invokevirtual 106, 3) := by decide +kernel
theorem dX7_takes_8 : decode cX7_takes 8 = .ok (.astore 6, 2) := by decide +kernel
theorem dX7_takes_10 : decode cX7_takes 10 = .ok (.aload_n 0, 1) := by decide +kernel
theorem dX7_takes_11 : decode cX7_takes 11 = .ok (.getfield 23, 3) := by decide +kernel
theorem dX7_takes_14 : decode cX7_takes 14 = .ok (.iload_n 2, 1) := by decide +kernel
theorem dX7_takes_15 : decode cX7_takes 15 = .ok (.invokevirtual 69, 3) := by decide +kernel
theorem dX7_takes_18 : decode cX7_takes 18 = .ok (.astore 7, 2) := by decide +kernel
theorem dX7_takes_20 : decode cX7_takes 20 = .ok (.aload 6, 2) := by decide +kernel
theorem dX7_takes_22 : decode cX7_takes 22 = .ok (.ifnull 16, 3) := by decide +kernel
theorem dX7_takes_25 : decode cX7_takes 25 = .ok (.aload 7, 2) := by decide +kernel
theorem dX7_takes_27 : decode cX7_takes 27 = .ok (.ifnull 11, 3) := by decide +kernel
theorem dX7_takes_30 : decode cX7_takes 30 = .ok (.iload 4, 2) := by decide +kernel
theorem dX7_takes_32 : decode cX7_takes 32 = .ok (.invokestatic 128, 3) := by decide +kernel
theorem dX7_takes_35 : decode cX7_takes 35 = .ok (.ifCond .ne 9, 3) := by decide +kernel
theorem dX7_takes_38 : decode cX7_takes 38 = .ok (.aload_n 0, 1) := by decide +kernel
theorem dX7_takes_39 : decode cX7_takes 39 = .ok (.iconst (-1), 1) := by decide +kernel
theorem dX7_takes_40 : decode cX7_takes 40 = .ok (.invokevirtual 43, 3) := by decide +kernel
theorem dX7_takes_43 : decode cX7_takes 43 = .ok (.ireturn, 1) := by decide +kernel
theorem dX7_takes_44 : decode cX7_takes 44 = .ok (.iload_n 3, 1) := by decide +kernel
theorem dX7_takes_45 : decode cX7_takes 45 = .ok (.ifCond .lt 8, 3) := by decide +kernel
theorem dX7_takes_48 : decode cX7_takes 48 = .ok (.iload 5, 2) := by decide +kernel
theorem dX7_takes_50 : decode cX7_takes 50 = .ok (.ifCond .ge 10, 3) := by decide +kernel
theorem dX7_takes_53 : decode cX7_takes 53 = .ok (.aload_n 0, 1) := by decide +kernel
theorem dX7_takes_54 : decode cX7_takes 54 = .ok (.bipush (-4), 2) := by decide +kernel
theorem dX7_takes_56 : decode cX7_takes 56 = .ok (.invokevirtual 43, 3) := by decide +kernel
theorem dX7_takes_59 : decode cX7_takes 59 = .ok (.ireturn, 1) := by decide +kernel
theorem dX7_takes_60 : decode cX7_takes 60 = .ok (.iload_n 3, 1) := by decide +kernel
theorem dX7_takes_61 : decode cX7_takes 61 = .ok (.sipush 9000, 3) := by decide +kernel
theorem dX7_takes_64 : decode cX7_takes 64 = .ok (.if_icmp .gt 11, 3) := by decide +kernel
theorem dX7_takes_67 : decode cX7_takes 67 = .ok (.iload 5, 2) := by decide +kernel
theorem dX7_takes_69 : decode cX7_takes 69 = .ok (.sipush 9999, 3) := by decide +kernel
theorem dX7_takes_72 : decode cX7_takes 72 = .ok (.if_icmp .le 10, 3) := by decide +kernel
theorem dX7_takes_75 : decode cX7_takes 75 = .ok (.aload_n 0, 1) := by decide +kernel
theorem dX7_takes_76 : decode cX7_takes 76 = .ok (.bipush (-6), 2) := by decide +kernel
theorem dX7_takes_78 : decode cX7_takes 78 = .ok (.invokevirtual 43, 3) := by decide +kernel
theorem dX7_takes_81 : decode cX7_takes 81 = .ok (.ireturn, 1) := by decide +kernel
theorem dX7_takes_82 : decode cX7_takes 82 = .ok (.aload_n 0, 1) := by decide +kernel
theorem dX7_takes_83 : decode cX7_takes 83 = .ok (.getfield 35, 3) := by decide +kernel
theorem dX7_takes_86 : decode cX7_takes 86 = .ok (.aload 7, 2) := by decide +kernel
theorem dX7_takes_88 : decode cX7_takes 88 = .ok (.iload_n 3, 1) := by decide +kernel
theorem dX7_takes_89 : decode cX7_takes 89 = .ok (.iload 4, 2) := by decide +kernel
theorem dX7_takes_91 : decode cX7_takes 91 = .ok (.invokevirtual 151, 3) := by decide +kernel
theorem dX7_takes_94 : decode cX7_takes 94 = .ok (.aload_n 0, 1) := by decide +kernel
theorem dX7_takes_95 : decode cX7_takes 95 = .ok (.getfield 35, 3) := by decide +kernel
theorem dX7_takes_98 : decode cX7_takes 98 = .ok (.iload 5, 2) := by decide +kernel
theorem dX7_takes_100 : decode cX7_takes 100 = .ok (.putfield 155, 3) := by decide +kernel
theorem dX7_takes_103 : decode cX7_takes 103 = .ok (.aload_n 0, 1) := by decide +kernel
theorem dX7_takes_104 : decode cX7_takes 104 = .ok (.getfield 35, 3) := by decide +kernel
theorem dX7_takes_107 : decode cX7_takes 107 = .ok (.aload 6, 2) := by decide +kernel
theorem dX7_takes_109 : decode cX7_takes 109 = .ok (.invokevirtual 158, 3) := by decide +kernel
theorem dX7_takes_112 : decode cX7_takes 112 = .ok (.ireturn, 1) := by decide +kernel
theorem dX7_spin_0 : decode cX7_spin 0 = .ok (.aload_n 0, 1) := by decide +kernel
theorem dX7_spin_1 : decode cX7_spin 1 = .ok (.getfield 23, 3) := by decide +kernel
theorem dX7_spin_4 : decode cX7_spin 4 = .ok (.iload_n 1, 1) := by decide +kernel
theorem dX7_spin_5 : decode cX7_spin 5 = .ok (.invokevirtual 69, 3) := by decide +kernel
theorem dX7_spin_8 : decode cX7_spin 8 = .ok (.astore 4, 2) := by decide +kernel
theorem dX7_spin_10 : decode cX7_spin 10 = .ok (.aload 4, 2) := by decide +kernel
theorem dX7_spin_12 : decode cX7_spin 12 = .ok (.ifnull 10, 3) := by decide +kernel
theorem dX7_spin_15 : decode cX7_spin 15 = .ok (.iload_n 3, 1) := by decide +kernel
theorem dX7_spin_16 : decode cX7_spin 16 = .ok (.invokestatic 128, 3) := by decide +kernel
theorem dX7_spin_19 : decode cX7_spin 19 = .ok (.ifCond .ne 9, 3) := by decide +kernel
theorem dX7_spin_22 : decode cX7_spin 22 = .ok (.aload_n 0, 1) := by decide +kernel
theorem dX7_spin_23 : decode cX7_spin 23 = .ok (.iconst (-1), 1) := by decide +kernel
theorem dX7_spin_24 : decode cX7_spin 24 = .ok (.invokevirtual 43, 3) := by decide +kernel
theorem dX7_spin_27 : decode cX7_spin 27 = .ok (.ireturn, 1) := by decide +kernel
theorem dX7_spin_28 : decode cX7_spin 28 = .ok (.iload_n 2, 1) := by decide +kernel
theorem dX7_spin_29 : decode cX7_spin 29 = .ok (.invokestatic 144, 3) := by decide +kernel
theorem dX7_spin_32 : decode cX7_spin 32 = .ok (.istore 5, 2) := by decide +kernel
theorem dX7_spin_34 : decode cX7_spin 34 = .ok (.iload 5, 2) := by decide +kernel
theorem dX7_spin_36 : decode cX7_spin 36 = .ok (.ifCond .eq 10, 3) := by decide +kernel
theorem dX7_spin_39 : decode cX7_spin 39 = .ok (.aload_n 0, 1) := by decide +kernel
theorem dX7_spin_40 : decode cX7_spin 40 = .ok (.iload 5, 2) := by decide +kernel
theorem dX7_spin_42 : decode cX7_spin 42 = .ok (.invokevirtual 43, 3) := by decide +kernel
theorem dX7_spin_45 : decode cX7_spin 45 = .ok (.ireturn, 1) := by decide +kernel
theorem dX7_spin_46 : decode cX7_spin 46 = .ok (.iload_n 2, 1) := by decide +kernel
theorem dX7_spin_47 : decode cX7_spin 47 = .ok (.aload 4, 2) := by decide +kernel
theorem dX7_spin_49 : decode cX7_spin 49 = .ok (.getfield 78, 3) := by decide +kernel
theorem dX7_spin_52 : decode cX7_spin 52 = .ok (.aload 4, 2) := by decide +kernel
theorem dX7_spin_54 : decode cX7_spin 54 = .ok (.getfield 87, 3) := by decide +kernel
theorem dX7_spin_57 : decode cX7_spin 57 = .ok (.invokestatic 147, 3) := by decide +kernel
theorem dX7_spin_60 : decode cX7_spin 60 = .ok (.istore 6, 2) := by decide +kernel
theorem dX7_spin_62 : decode cX7_spin 62 = .ok (.aload_n 0, 1) := by decide +kernel
theorem dX7_spin_63 : decode cX7_spin 63 = .ok (.getfield 23, 3) := by decide +kernel
theorem dX7_spin_66 : decode cX7_spin 66 = .ok (.getfield 119, 3) := by decide +kernel
theorem dX7_spin_69 : decode cX7_spin 69 = .ok (.iload_n 1, 1) := by decide +kernel
theorem dX7_spin_70 : decode cX7_spin 70 = .ok (.iload_n 2, 1) := by decide +kernel
theorem dX7_spin_71 : decode cX7_spin 71 = .ok (.iload_n 3, 1) := by decide +kernel
theorem dX7_spin_72 : decode cX7_spin 72 = .ok (.iload 6, 2) := by decide +kernel
theorem dX7_spin_74 : decode cX7_spin 74 = .ok (.invokevirtual 161, 3) := by decide +kernel
theorem dX7_spin_77 : decode cX7_spin 77 = .ok (.iload 6, 2) := by decide +kernel
theorem dX7_spin_79 : decode cX7_spin 79 = .ok (.ireturn, 1) := by decide +kernel
theorem dX7_tick_0 : decode cX7_tick 0 = .ok (.aload_n 0, 1) := by decide +kernel
theorem dX7_tick_1 : decode cX7_tick 1 = .ok (.getfield 23, 3) := by decide +kernel
theorem dX7_tick_4 : decode cX7_tick 4 = .ok (.getfield 119, 3) := by decide +kernel
theorem dX7_tick_7 : decode cX7_tick 7 = .ok (.astore_n 2, 1) := by decide +kernel
theorem dX7_tick_8 : decode cX7_tick 8 = .ok (.aload_n 2, 1) := by decide +kernel
