theorem dX2_lowOfLastTold_24 : decode cX2_lowOfLastTold 24 = .ok (.isub, 1) := by decide +kernel
theorem dX2_lowOfLastTold_25 : decode cX2_lowOfLastTold 25 = .ok (.invokestatic 76, 3) := by decide +kernel
theorem dX2_lowOfLastTold_28 : decode cX2_lowOfLastTold 28 = .ok (.invokestatic 76, 3) := by decide +kernel
theorem dX2_lowOfLastTold_31 : decode cX2_lowOfLastTold 31 = .ok (.ireturn, 1) := by decide +kernel
theorem dX2_toldNotWanted_0 : decode cX2_toldNotWanted 0 = .ok (.iconst 0, 1) := by decide +kernel
theorem dX2_toldNotWanted_1 : decode cX2_toldNotWanted 1 = .ok (.istore_n 2, 1) := by decide +kernel
theorem dX2_toldNotWanted_2 : decode cX2_toldNotWanted 2 = .ok (.aload_n 0, 1) := by decide +kernel
theorem dX2_toldNotWanted_3 : decode cX2_toldNotWanted 3 = .ok (.aload_n 1, 1) := by decide +kernel
theorem dX2_toldNotWanted_4 : decode cX2_toldNotWanted 4 = .ok (.invokevirtual 183, 3) := by decide +kernel
theorem dX2_toldNotWanted_7 : decode cX2_toldNotWanted 7 = .ok (.istore_n 3, 1) := by decide +kernel
theorem dX2_toldNotWanted_8 : decode cX2_toldNotWanted 8 = .ok (.iconst 0, 1) := by decide +kernel
theorem dX2_toldNotWanted_9 : decode cX2_toldNotWanted 9 = .ok (.istore 4, 2) := by decide +kernel
theorem dX2_toldNotWanted_11 : decode cX2_toldNotWanted 11 = .ok (.iload 4, 2) := by decide +kernel
theorem dX2_toldNotWanted_13 : decode cX2_toldNotWanted 13 = .ok (.iload_n 3, 1) := by decide +kernel
theorem dX2_toldNotWanted_14 : decode cX2_toldNotWanted 14 = .ok (.if_icmp .ge 38, 3) := by decide +kernel
theorem dX2_toldNotWanted_17 : decode cX2_toldNotWanted 17 = .ok (.iload_n 2, 1) := by decide +kernel
theorem dX2_toldNotWanted_18 : decode cX2_toldNotWanted 18 = .ok (.aload_n 1, 1) := by decide +kernel
theorem dX2_toldNotWanted_19 : decode cX2_toldNotWanted 19 = .ok (.aload_n 0, 1) := by decide +kernel
theorem dX2_toldNotWanted_20 : decode cX2_toldNotWanted 20 = .ok (.getfield 56, 3) := by decide +kernel
theorem dX2_toldNotWanted_23 : decode cX2_toldNotWanted 23 = .ok (.iload 4, 2) := by decide +kernel
theorem dX2_toldNotWanted_25 : decode cX2_toldNotWanted 25 = .ok (.invokestatic 76, 3) := by decide +kernel
theorem dX2_toldNotWanted_28 : decode cX2_toldNotWanted 28 = .ok (.invokevirtual 186, 3) := by decide +kernel
theorem dX2_toldNotWanted_31 : decode cX2_toldNotWanted 31 = .ok (.bipush (-5), 2) := by decide +kernel
theorem dX2_toldNotWanted_33 : decode cX2_toldNotWanted 33 = .ok (.if_icmp .ne 7, 3) := by decide +kernel
theorem dX2_toldNotWanted_36 : decode cX2_toldNotWanted 36 = .ok (.iconst 1, 1) := by decide +kernel
theorem dX2_toldNotWanted_37 : decode cX2_toldNotWanted 37 = .ok (.goto 4, 3) := by decide +kernel
theorem dX2_toldNotWanted_40 : decode cX2_toldNotWanted 40 = .ok (.iconst 0, 1) := by decide +kernel
theorem dX2_toldNotWanted_41 : decode cX2_toldNotWanted 41 = .ok (.invokestatic 176, 3) := by decide +kernel
theorem dX2_toldNotWanted_44 : decode cX2_toldNotWanted 44 = .ok (.iadd, 1) := by decide +kernel
theorem dX2_toldNotWanted_45 : decode cX2_toldNotWanted 45 = .ok (.istore_n 2, 1) := by decide +kernel
theorem dX2_toldNotWanted_46 : decode cX2_toldNotWanted 46 = .ok (.iinc 4 1, 3) := by decide +kernel
theorem dX2_toldNotWanted_49 : decode cX2_toldNotWanted 49 = .ok (.goto (-38), 3) := by decide +kernel
theorem dX2_toldNotWanted_52 : decode cX2_toldNotWanted 52 = .ok (.iload_n 2, 1) := by decide +kernel
theorem dX2_toldNotWanted_53 : decode cX2_toldNotWanted 53 = .ok (.ireturn, 1) := by decide +kernel
theorem dX2_isCaught_0 : decode cX2_isCaught 0 = .ok (.aload_n 0, 1) := by decide +kernel
theorem dX2_isCaught_1 : decode cX2_isCaught 1 = .ok (.getfield 31, 3) := by decide +kernel
theorem dX2_isCaught_4 : decode cX2_isCaught 4 = .ok (.iload_n 1, 1) := by decide +kernel
theorem dX2_isCaught_5 : decode cX2_isCaught 5 = .ok (.ishr, 1) := by decide +kernel
theorem dX2_isCaught_6 : decode cX2_isCaught 6 = .ok (.iconst 1, 1) := by decide +kernel
theorem dX2_isCaught_7 : decode cX2_isCaught 7 = .ok (.iand, 1) := by decide +kernel
theorem dX2_isCaught_8 : decode cX2_isCaught 8 = .ok (.iconst 1, 1) := by decide +kernel
theorem dX2_isCaught_9 : decode cX2_isCaught 9 = .ok (.if_icmp .ne 7, 3) := by decide +kernel
theorem dX2_isCaught_12 : decode cX2_isCaught 12 = .ok (.iconst 1, 1) := by decide +kernel
theorem dX2_isCaught_13 : decode cX2_isCaught 13 = .ok (.goto 4, 3) := by decide +kernel
theorem dX2_isCaught_16 : decode cX2_isCaught 16 = .ok (.iconst 0, 1) := by decide +kernel
theorem dX2_isCaught_17 : decode cX2_isCaught 17 = .ok (.ireturn, 1) := by decide +kernel
theorem dX2_caughtSize_0 : decode cX2_caughtSize 0 = .ok (.aload_n 0, 1) := by decide +kernel
theorem dX2_caughtSize_1 : decode cX2_caughtSize 1 = .ok (.getfield 31, 3) := by decide +kernel
theorem dX2_caughtSize_4 : decode cX2_caughtSize 4 = .ok (.invokestatic 189, 3) := by decide +kernel
theorem dX2_caughtSize_7 : decode cX2_caughtSize 7 = .ok (.ireturn, 1) := by decide +kernel
theorem dX2_tellingLess_0 : decode cX2_tellingLess 0 = .ok (.iconst 0, 1) := by decide +kernel
theorem dX2_tellingLess_1 : decode cX2_tellingLess 1 = .ok (.istore_n 2, 1) := by decide +kernel
theorem dX2_tellingLess_2 : decode cX2_tellingLess 2 = .ok (.iconst 0, 1) := by decide +kernel
theorem dX2_tellingLess_3 : decode cX2_tellingLess 3 = .ok (.istore_n 3, 1) := by decide +kernel
theorem dX2_tellingLess_4 : decode cX2_tellingLess 4 = .ok (.iload_n 3, 1) := by decide +kernel
theorem dX2_tellingLess_5 : decode cX2_tellingLess 5 = .ok (.bipush 6, 2) := by decide +kernel
theorem dX2_tellingLess_7 : decode cX2_tellingLess 7 = .ok (.if_icmp .ge 59, 3) := by decide +kernel
theorem dX2_tellingLess_10 : decode cX2_tellingLess 10 = .ok (.aload_n 0, 1) := by decide +kernel
theorem dX2_tellingLess_11 : decode cX2_tellingLess 11 = .ok (.getfield 44, 3) := by decide +kernel
theorem dX2_tellingLess_14 : decode cX2_tellingLess 14 = .ok (.iload_n 3, 1) := by decide +kernel
theorem dX2_tellingLess_15 : decode cX2_tellingLess 15 = .ok (.invokestatic 76, 3) := by decide +kernel
theorem dX2_tellingLess_18 : decode cX2_tellingLess 18 = .ok (.aload_n 0, 1) := by decide +kernel
theorem dX2_tellingLess_19 : decode cX2_tellingLess 19 = .ok (.getfield 41, 3) := by decide +kernel
theorem dX2_tellingLess_22 : decode cX2_tellingLess 22 = .ok (.iload_n 3, 1) := by decide +kernel
theorem dX2_tellingLess_23 : decode cX2_tellingLess 23 = .ok (.invokestatic 76, 3) := by decide +kernel
theorem dX2_tellingLess_26 : decode cX2_tellingLess 26 = .ok (.if_icmp .ge 7, 3) := by decide +kernel
theorem dX2_tellingLess_29 : decode cX2_tellingLess 29 = .ok (.iconst 1, 1) := by decide +kernel
theorem dX2_tellingLess_30 : decode cX2_tellingLess 30 = .ok (.goto 4, 3) := by decide +kernel
theorem dX2_tellingLess_33 : decode cX2_tellingLess 33 = .ok (.iconst 0, 1) := by decide +kernel
theorem dX2_tellingLess_34 : decode cX2_tellingLess 34 = .ok (.istore 4, 2) := by decide +kernel
theorem dX2_tellingLess_36 : decode cX2_tellingLess 36 = .ok (.iload_n 2, 1) := by decide +kernel
theorem dX2_tellingLess_37 : decode cX2_tellingLess 37 = .ok (.aload_n 1, 1) := by decide +kernel
theorem dX2_tellingLess_38 : decode cX2_tellingLess 38 = .ok (.iload_n 3, 1) := by decide +kernel
theorem dX2_tellingLess_39 : decode cX2_tellingLess 39 = .ok (.invokevirtual 132, 3) := by decide +kernel
theorem dX2_tellingLess_42 : decode cX2_tellingLess 42 = .ok (.ifCond .eq 12, 3) := by decide +kernel
theorem dX2_tellingLess_45 : decode cX2_tellingLess 45 = .ok (.iload 4, 2) := by decide +kernel
theorem dX2_tellingLess_47 : decode cX2_tellingLess 47 = .ok (.ifCond .eq 7, 3) := by decide +kernel
theorem dX2_tellingLess_50 : decode cX2_tellingLess 50 = .ok (.iconst 1, 1) := by decide +kernel
theorem dX2_tellingLess_51 : decode cX2_tellingLess 51 = .ok (.goto 4, 3) := by decide +kernel
theorem dX2_tellingLess_54 : decode cX2_tellingLess 54 = .ok (.iconst 0, 1) := by decide +kernel
theorem dX2_tellingLess_55 : decode cX2_tellingLess 55 = .ok (.invokestatic 176, 3) := by decide +kernel
theorem dX2_tellingLess_58 : decode cX2_tellingLess 58 = .ok (.iadd, 1) := by decide +kernel
theorem dX2_tellingLess_59 : decode cX2_tellingLess 59 = .ok (.istore_n 2, 1) := by decide +kernel
theorem dX2_tellingLess_60 : decode cX2_tellingLess 60 = .ok (.iinc 3 1, 3) := by decide +kernel
theorem dX2_tellingLess_63 : decode cX2_tellingLess 63 = .ok (.goto (-59), 3) := by decide +kernel
theorem dX2_tellingLess_66 : decode cX2_tellingLess 66 = .ok (.iload_n 2, 1) := by decide +kernel
theorem dX2_tellingLess_67 : decode cX2_tellingLess 67 = .ok (.ireturn, 1) := by decide +kernel
theorem dX2_allLookUps_0 : decode cX2_allLookUps 0 = .ok (.iconst 0, 1) := by decide +kernel
theorem dX2_allLookUps_1 : decode cX2_allLookUps 1 = .ok (.istore_n 1, 1) := by decide +kernel
theorem dX2_allLookUps_2 : decode cX2_allLookUps 2 = .ok (.iconst 0, 1) := by decide +kernel
theorem dX2_allLookUps_3 : decode cX2_allLookUps 3 = .ok (.istore_n 2, 1) := by decide +kernel
theorem dX2_allLookUps_4 : decode cX2_allLookUps 4 = .ok (.iload_n 2, 1) := by decide +kernel
theorem dX2_allLookUps_5 : decode cX2_allLookUps 5 = .ok (.bipush 6, 2) := by decide +kernel
theorem dX2_allLookUps_7 : decode cX2_allLookUps 7 = .ok (.if_icmp .ge 20, 3) := by decide +kernel
theorem dX2_allLookUps_10 : decode cX2_allLookUps 10 = .ok (.iload_n 1, 1) := by decide +kernel
theorem dX2_allLookUps_11 : decode cX2_allLookUps 11 = .ok (.aload_n 0, 1) := by decide +kernel
theorem dX2_allLookUps_12 : decode cX2_allLookUps 12 = .ok (.getfield 38, 3) := by decide +kernel
theorem dX2_allLookUps_15 : decode cX2_allLookUps 15 = .ok (.iload_n 2, 1) := by decide +kernel
theorem dX2_allLookUps_16 : decode cX2_allLookUps 16 = .ok (.invokestatic 76, 3) := by decide +kernel
theorem dX2_allLookUps_19 : decode cX2_allLookUps 19 = .ok (.iadd, 1) := by decide +kernel
theorem dX2_allLookUps_20 : decode cX2_allLookUps 20 = .ok (.istore_n 1, 1) := by decide +kernel
theorem dX2_allLookUps_21 : decode cX2_allLookUps 21 = .ok (.iinc 2 1, 3) := by decide +kernel
theorem dX2_allLookUps_24 : decode cX2_allLookUps 24 = .ok (.goto (-20), 3) := by decide +kernel
theorem dX2_allLookUps_27 : decode cX2_allLookUps 27 = .ok (.iload_n 1, 1) := by decide +kernel
theorem dX2_allLookUps_28 : decode cX2_allLookUps 28 = .ok (.ireturn, 1) := by decide +kernel
theorem dX2_cost_0 : decode cX2_cost 0 = .ok (.aload_n 0, 1) := by decide +kernel
theorem dX2_cost_1 : decode cX2_cost 1 = .ok (.getfield 25, 3) := by decide +kernel
theorem dX2_cost_4 : decode cX2_cost 4 = .ok (.iconst 3, 1) := by decide +kernel
theorem dX2_cost_5 : decode cX2_cost 5 = .ok (.aload_n 0, 1) := by decide +kernel
theorem dX2_cost_6 : decode cX2_cost 6 = .ok (.invokevirtual 194, 3) := by decide +kernel
theorem dX2_cost_9 : decode cX2_cost 9 = .ok (.imul, 1) := by decide +kernel
theorem dX2_cost_10 : decode cX2_cost 10 = .ok (.iadd, 1) := by decide +kernel
theorem dX2_cost_11 : decode cX2_cost 11 = .ok (.ireturn, 1) := by decide +kernel
theorem dX3_init_0 : decode cX3_init 0 = .ok (.aload_n 0, 1) := by decide +kernel
theorem dX3_init_1 : decode cX3_init 1 = .ok (.invokespecial 1, 3) := by decide +kernel
theorem dX3_init_4 : decode cX3_init 4 = .ok (.aload_n 0, 1) := by decide +kernel
theorem dX3_init_5 : decode cX3_init 5 = .ok (.new 7, 3) := by decide +kernel
theorem dX3_init_8 : decode cX3_init 8 = .ok (.dup, 1) := by decide +kernel
theorem dX3_init_9 : decode cX3_init 9 = .ok (.invokespecial 9, 3) := by decide +kernel
theorem dX3_init_12 : decode cX3_init 12 = .ok (.putfield 10, 3) := by decide +kernel
theorem dX3_init_15 : decode cX3_init 15 = .ok (.aload_n 0, 1) := by decide +kernel
theorem dX3_init_16 : decode cX3_init 16 = .ok (.new 16, 3) := by decide +kernel
theorem dX3_init_19 : decode cX3_init 19 = .ok (.dup, 1) := by decide +kernel
theorem dX3_init_20 : decode cX3_init 20 = .ok (.invokespecial 18, 3) := by decide +kernel
theorem dX3_init_23 : decode cX3_init 23 = .ok (.putfield 19, 3) := by decide +kernel
theorem dX3_init_26 : decode cX3_init 26 = .ok (.aload_n 0, 1) := by decide +kernel
theorem dX3_init_27 : decode cX3_init 27 = .ok (.iconst 0, 1) := by decide +kernel
theorem dX3_init_28 : decode cX3_init 28 = .ok (.putfield 23, 3) := by decide +kernel
theorem dX3_init_31 : decode cX3_init 31 = .ok (.aload_n 0, 1) := by decide +kernel
theorem dX3_init_32 : decode cX3_init 32 = .ok (.iconst 0, 1) := by decide +kernel
theorem dX3_init_33 : decode cX3_init 33 = .ok (.putfield 27, 3) := by decide +kernel
theorem dX3_init_36 : decode cX3_init 36 = .ok (.return_, 1) := by decide +kernel
theorem dX3_copyFrom_0 : decode cX3_copyFrom 0 = .ok (.aload_n 0, 1) := by decide +kernel
theorem dX3_copyFrom_1 : decode cX3_copyFrom 1 = .ok (.getfield 10, 3) := by decide +kernel
theorem dX3_copyFrom_4 : decode cX3_copyFrom 4 = .ok (.aload_n 1, 1) := by decide +kernel
theorem dX3_copyFrom_5 : decode cX3_copyFrom 5 = .ok (.getfield 10, 3) := by decide +kernel
theorem dX3_copyFrom_8 : decode cX3_copyFrom 8 = .ok (.invokevirtual 30, 3) := by decide +kernel
theorem dX3_copyFrom_11 : decode cX3_copyFrom 11 = .ok (.aload_n 0, 1) := by decide +kernel
theorem dX3_copyFrom_12 : decode cX3_copyFrom 12 = .ok (.getfield 19, 3) := by decide +kernel
theorem dX3_copyFrom_15 : decode cX3_copyFrom 15 = .ok (.aload_n 1, 1) := by decide +kernel
theorem dX3_copyFrom_16 : decode cX3_copyFrom 16 = .ok (.getfield 19, 3) := by decide +kernel
theorem dX3_copyFrom_19 : decode cX3_copyFrom 19 = .ok (.invokevirtual 34, 3) := by decide +kernel
theorem dX3_copyFrom_22 : decode cX3_copyFrom 22 = .ok (.aload_n 0, 1) := by decide +kernel
theorem dX3_copyFrom_23 : decode cX3_copyFrom 23 = .ok (.aload_n 1, 1) := by decide +kernel
theorem dX3_copyFrom_24 : decode cX3_copyFrom 24 = .ok (.getfield 23, 3) := by decide +kernel
theorem dX3_copyFrom_27 : decode cX3_copyFrom 27 = .ok (.putfield 23, 3) := by decide +kernel
theorem dX3_copyFrom_30 : decode cX3_copyFrom 30 = .ok (.aload_n 0, 1) := by decide +kernel
theorem dX3_copyFrom_31 : decode cX3_copyFrom 31 = .ok (.aload_n 1, 1) := by decide +kernel
theorem dX3_copyFrom_32 : decode cX3_copyFrom 32 = .ok (.getfield 27, 3) := by decide +kernel
theorem dX3_copyFrom_35 : decode cX3_copyFrom 35 = .ok (.putfield 27, 3) := by decide +kernel
theorem dX3_copyFrom_38 : decode cX3_copyFrom 38 = .ok (.return_, 1) := by decide +kernel
theorem dX4_init_0 : decode cX4_init 0 = .ok (.aload_n 0, 1) := by decide +kernel
theorem dX4_init_1 : decode cX4_init 1 = .ok (.invokespecial 3, 3) := by decide +kernel
theorem dX4_init_4 : decode cX4_init 4 = .ok (.aload_n 0, 1) := by decide +kernel
theorem dX4_init_5 : decode cX4_init 5 = .ok (.bipush 40, 2) := by decide +kernel
theorem dX4_init_7 : decode cX4_init 7 = .ok (.newarray .char, 2) := by decide +kernel
theorem dX4_init_9 : decode cX4_init 9 = .ok (.putfield 9, 3) := by decide +kernel
theorem dX4_init_12 : decode cX4_init 12 = .ok (.aload_n 0, 1) := by decide +kernel
theorem dX4_init_13 : decode cX4_init 13 = .ok (.iconst 0, 1) := by decide +kernel
theorem dX4_init_14 : decode cX4_init 14 = .ok (.putfield 15, 3) := by decide +kernel
theorem dX4_init_17 : decode cX4_init 17 = .ok (.aload_n 0, 1) := by decide +kernel
theorem dX4_init_18 : decode cX4_init 18 = .ok (.iconst (-1), 1) := by decide +kernel
theorem dX4_init_19 : decode cX4_init 19 = .ok (.putfield 19, 3) := by decide +kernel
theorem dX4_init_22 : decode cX4_init 22 = .ok (.aload_n 0, 1) := by decide +kernel
theorem dX4_init_23 : decode cX4_init 23 = .ok (.iconst 3, 1) := by decide +kernel
theorem dX4_init_24 : decode cX4_init 24 = .ok (.newarray .int, 2) := by decide +kernel
theorem dX4_init_26 : decode cX4_init 26 = .ok (.putfield 22, 3) := by decide +kernel
theorem dX4_init_29 : decode cX4_init 29 = .ok (.return_, 1) := by decide +kernel
theorem dX5_init_0 : decode cX5_init 0 = .ok (.aload_n 0, 1) := by decide +kernel
theorem dX5_init_1 : decode cX5_init 1 = .ok (.invokespecial 3, 3) := by decide +kernel
theorem dX5_init_4 : decode cX5_init 4 = .ok (.aload_n 0, 1) := by decide +kernel
theorem dX5_init_5 : decode cX5_init 5 = .ok (.new 9, 3) := by decide +kernel
theorem dX5_init_8 : decode cX5_init 8 = .ok (.dup, 1) := by decide +kernel
theorem dX5_init_9 : decode cX5_init 9 = .ok (.invokespecial 11, 3) := by decide +kernel
theorem dX5_init_12 : decode cX5_init 12 = .ok (.putfield 12, 3) := by decide +kernel
theorem dX5_init_15 : decode cX5_init 15 = .ok (.aload_n 0, 1) := by decide +kernel
theorem dX5_init_16 : decode cX5_init 16 = .ok (.new 16, 3) := by decide +kernel
theorem dX5_init_19 : decode cX5_init 19 = .ok (.dup, 1) := by decide +kernel
theorem dX5_init_20 : decode cX5_init 20 = .ok (.invokespecial 18, 3) := by decide +kernel
theorem dX5_init_23 : decode cX5_init 23 = .ok (.putfield 19, 3) := by decide +kernel
theorem dX5_init_26 : decode cX5_init 26 = .ok (.aload_n 0, 1) := by decide +kernel
theorem dX5_init_27 : decode cX5_init 27 = .ok (.new 9, 3) := by decide +kernel
theorem dX5_init_30 : decode cX5_init 30 = .ok (.dup, 1) := by decide +kernel
theorem dX5_init_31 : decode cX5_init 31 = .ok (.invokespecial 11, 3) := by decide +kernel
theorem dX5_init_34 : decode cX5_init 34 = .ok (.putfield 23, 3) := by decide +kernel
theorem dX5_init_37 : decode cX5_init 37 = .ok (.aload_n 0, 1) := by decide +kernel
theorem dX5_init_38 : decode cX5_init 38 = .ok (.iconst 0, 1) := by decide +kernel
theorem dX5_init_39 : decode cX5_init 39 = .ok (.putfield 26, 3) := by decide +kernel
theorem dX5_init_42 : decode cX5_init 42 = .ok (.aload_n 0, 1) := by decide +kernel
theorem dX5_init_43 : decode cX5_init 43 = .ok (.new 30, 3) := by decide +kernel
theorem dX5_init_46 : decode cX5_init 46 = .ok (.dup, 1) := by decide +kernel
theorem dX5_init_47 : decode cX5_init 47 = .ok (.invokespecial 32, 3) := by decide +kernel
theorem dX5_init_50 : decode cX5_init 50 = .ok (.putfield 33, 3) := by decide +kernel
theorem dX5_init_53 : decode cX5_init 53 = .ok (.aload_n 0, 1) := by decide +kernel
theorem dX5_init_54 : decode cX5_init 54 = .ok (.new 37, 3) := by decide +kernel
theorem dX5_init_57 : decode cX5_init 57 = .ok (.dup, 1) := by decide +kernel
theorem dX5_init_58 : decode cX5_init 58 = .ok (.invokespecial 39, 3) := by decide +kernel
theorem dX5_init_61 : decode cX5_init 61 = .ok (.putfield 40, 3) := by decide +kernel
theorem dX5_init_64 : decode cX5_init 64 = .ok (.return_, 1) := by decide +kernel
theorem dX5_add_0 : decode cX5_add 0 = .ok (.iload_n 1, 1) := by decide +kernel
theorem dX5_add_1 : decode cX5_add 1 = .ok (.invokestatic 44, 3) := by decide +kernel
theorem dX5_add_4 : decode cX5_add 4 = .ok (.ifCond .eq 10, 3) := by decide +kernel
theorem dX5_add_7 : decode cX5_add 7 = .ok (.iload_n 2, 1) := by decide +kernel
theorem dX5_add_8 : decode cX5_add 8 = .ok (.invokestatic 48, 3) := by decide +kernel
theorem dX5_add_11 : decode cX5_add 11 = .ok (.ifCond .ne 5, 3) := by decide +kernel
theorem dX5_add_14 : decode cX5_add 14 = .ok (.iconst (-1), 1) := by decide +kernel
theorem dX5_add_15 : decode cX5_add 15 = .ok (.ireturn, 1) := by decide +kernel
theorem dX5_add_16 : decode cX5_add 16 = .ok (.iload_n 3, 1) := by decide +kernel
theorem dX5_add_17 : decode cX5_add 17 = .ok (.iconst 1, 1) := by decide +kernel
theorem dX5_add_18 : decode cX5_add 18 = .ok (.if_icmp .lt 10, 3) := by decide +kernel
theorem dX5_add_21 : decode cX5_add 21 = .ok (.iload_n 3, 1) := by decide +kernel
theorem dX5_add_22 : decode cX5_add 22 = .ok (.sipush 999, 3) := by decide +kernel
theorem dX5_add_25 : decode cX5_add 25 = .ok (.if_icmp .le 6, 3) := by decide +kernel
theorem dX5_add_28 : decode cX5_add 28 = .ok (.bipush (-2), 2) := by decide +kernel
theorem dX5_add_30 : decode cX5_add 30 = .ok (.ireturn, 1) := by decide +kernel
theorem dX5_add_31 : decode cX5_add 31 = .ok (.aload_n 0, 1) := by decide +kernel
theorem dX5_add_32 : decode cX5_add 32 = .ok (.getfield 12, 3) := by decide +kernel
theorem dX5_add_35 : decode cX5_add 35 = .ok (.getfield 51, 3) := by decide +kernel
theorem dX5_add_38 : decode cX5_add 38 = .ok (.getfield 54, 3) := by decide +kernel
theorem dX5_add_41 : decode cX5_add 41 = .ok (.ifCond .eq 6, 3) := by decide +kernel
theorem dX5_add_44 : decode cX5_add 44 = .ok (.bipush (-4), 2) := by decide +kernel
theorem dX5_add_46 : decode cX5_add 46 = .ok (.ireturn, 1) := by decide +kernel
theorem dX5_add_47 : decode cX5_add 47 = .ok (.aload_n 0, 1) := by decide +kernel
theorem dX5_add_48 : decode cX5_add 48 = .ok (.getfield 12, 3) := by decide +kernel
theorem dX5_add_51 : decode cX5_add 51 = .ok (.getfield 57, 3) := by decide +kernel
theorem dX5_add_54 : decode cX5_add 54 = .ok (.iload_n 1, 1) := by decide +kernel
theorem dX5_add_55 : decode cX5_add 55 = .ok (.iload_n 2, 1) := by decide +kernel
theorem dX5_add_56 : decode cX5_add 56 = .ok (.invokevirtual 61, 3) := by decide +kernel
theorem dX5_add_59 : decode cX5_add 59 = .ok (.istore 4, 2) := by decide +kernel
theorem dX5_add_61 : decode cX5_add 61 = .ok (.iload 4, 2) := by decide +kernel
theorem dX5_add_63 : decode cX5_add 63 = .ok (.ifCond .ne 22, 3) := by decide +kernel
theorem dX5_add_66 : decode cX5_add 66 = .ok (.aload_n 0, 1) := by decide +kernel
theorem dX5_add_67 : decode cX5_add 67 = .ok (.getfield 12, 3) := by decide +kernel
theorem dX5_add_70 : decode cX5_add 70 = .ok (.getfield 57, 3) := by decide +kernel
theorem dX5_add_73 : decode cX5_add 73 = .ok (.iload_n 1, 1) := by decide +kernel
theorem dX5_add_74 : decode cX5_add 74 = .ok (.invokevirtual 67, 3) := by decide +kernel
theorem dX5_add_77 : decode cX5_add 77 = .ok (.bipush 40, 2) := by decide +kernel
theorem dX5_add_79 : decode cX5_add 79 = .ok (.if_icmp .lt 6, 3) := by decide +kernel
theorem dX5_add_82 : decode cX5_add 82 = .ok (.bipush (-3), 2) := by decide +kernel
theorem dX5_add_84 : decode cX5_add 84 = .ok (.ireturn, 1) := by decide +kernel
theorem dX5_add_85 : decode cX5_add 85 = .ok (.iload 4, 2) := by decide +kernel
theorem dX5_add_87 : decode cX5_add 87 = .ok (.iload_n 3, 1) := by decide +kernel
theorem dX5_add_88 : decode cX5_add 88 = .ok (.if_icmp .ne 6, 3) := by decide +kernel
theorem dX5_add_91 : decode cX5_add 91 = .ok (.bipush (-5), 2) := by decide +kernel
theorem dX5_add_93 : decode cX5_add 93 = .ok (.ireturn, 1) := by decide +kernel
theorem dX5_add_94 : decode cX5_add 94 = .ok (.aload_n 0, 1) := by decide +kernel
theorem dX5_add_95 : decode cX5_add 95 = .ok (.getfield 19, 3) := by decide +kernel
theorem dX5_add_98 : decode cX5_add 98 = .ok (.aload_n 0, 1) := by decide +kernel
theorem dX5_add_99 : decode cX5_add 99 = .ok (.getfield 12, 3) := by decide +kernel
theorem dX5_add_102 : decode cX5_add 102 = .ok (.invokevirtual 71, 3) := by decide +kernel
theorem dX5_add_105 : decode cX5_add 105 = .ok (.aload_n 0, 1) := by decide +kernel
theorem dX5_add_106 : decode cX5_add 106 = .ok (.getfield 12, 3) := by decide +kernel
theorem dX5_add_109 : decode cX5_add 109 = .ok (.getfield 57, 3) := by decide +kernel
theorem dX5_add_112 : decode cX5_add 112 = .ok (.iload_n 1, 1) := by decide +kernel
theorem dX5_add_113 : decode cX5_add 113 = .ok (.iload_n 2, 1) := by decide +kernel
theorem dX5_add_114 : decode cX5_add 114 = .ok (.iload_n 3, 1) := by decide +kernel
theorem dX5_add_115 : decode cX5_add 115 = .ok (.invokevirtual 75, 3) := by decide +kernel
theorem dX5_add_118 : decode cX5_add 118 = .ok (.ireturn, 1) := by decide +kernel
theorem dX5_drop_0 : decode cX5_drop 0 = .ok (.iload_n 1, 1) := by decide +kernel
theorem dX5_drop_1 : decode cX5_drop 1 = .ok (.invokestatic 44, 3) := by decide +kernel
theorem dX5_drop_4 : decode cX5_drop 4 = .ok (.ifCond .eq 10, 3) := by decide +kernel
theorem dX5_drop_7 : decode cX5_drop 7 = .ok (.iload_n 2, 1) := by decide +kernel
theorem dX5_drop_8 : decode cX5_drop 8 = .ok (.invokestatic 48, 3) := by decide +kernel
theorem dX5_drop_11 : decode cX5_drop 11 = .ok (.ifCond .ne 5, 3) := by decide +kernel
theorem dX5_drop_14 : decode cX5_drop 14 = .ok (.iconst (-1), 1) := by decide +kernel
theorem dX5_drop_15 : decode cX5_drop 15 = .ok (.ireturn, 1) := by decide +kernel
theorem dX5_drop_16 : decode cX5_drop 16 = .ok (.aload_n 0, 1) := by decide +kernel
theorem dX5_drop_17 : decode cX5_drop 17 = .ok (.getfield 12, 3) := by decide +kernel
theorem dX5_drop_20 : decode cX5_drop 20 = .ok (.getfield 57, 3) := by decide +kernel
theorem dX5_drop_23 : decode cX5_drop 23 = .ok (.iload_n 1, 1) := by decide +kernel
theorem dX5_drop_24 : decode cX5_drop 24 = .ok (.iload_n 2, 1) := by decide +kernel
theorem dX5_drop_25 : decode cX5_drop 25 = .ok (.invokevirtual 61, 3) := by decide +kernel
theorem dX5_drop_28 : decode cX5_drop 28 = .ok (.ifCond .ne 5, 3) := by decide +kernel
theorem dX5_drop_31 : decode cX5_drop 31 = .ok (.iconst (-1), 1) := by decide +kernel
theorem dX5_drop_32 : decode cX5_drop 32 = .ok (.ireturn, 1) := by decide +kernel
theorem dX5_drop_33 : decode cX5_drop 33 = .ok (.aload_n 0, 1) := by decide +kernel
theorem dX5_drop_34 : decode cX5_drop 34 = .ok (.getfield 12, 3) := by decide +kernel
theorem dX5_drop_37 : decode cX5_drop 37 = .ok (.getfield 51, 3) := by decide +kernel
theorem dX5_drop_40 : decode cX5_drop 40 = .ok (.getfield 54, 3) := by decide +kernel
theorem dX5_drop_43 : decode cX5_drop 43 = .ok (.ifCond .eq 6, 3) := by decide +kernel
theorem dX5_drop_46 : decode cX5_drop 46 = .ok (.bipush (-4), 2) := by decide +kernel
theorem dX5_drop_48 : decode cX5_drop 48 = .ok (.ireturn, 1) := by decide +kernel
theorem dX5_drop_49 : decode cX5_drop 49 = .ok (.aload_n 0, 1) := by decide +kernel
theorem dX5_drop_50 : decode cX5_drop 50 = .ok (.getfield 19, 3) := by decide +kernel
theorem dX5_drop_53 : decode cX5_drop 53 = .ok (.aload_n 0, 1) := by decide +kernel
theorem dX5_drop_54 : decode cX5_drop 54 = .ok (.getfield 12, 3) := by decide +kernel
theorem dX5_drop_57 : decode cX5_drop 57 = .ok (.invokevirtual 71, 3) := by decide +kernel
theorem dX5_drop_60 : decode cX5_drop 60 = .ok (.aload_n 0, 1) := by decide +kernel
theorem dX5_drop_61 : decode cX5_drop 61 = .ok (.getfield 12, 3) := by decide +kernel
theorem dX5_drop_64 : decode cX5_drop 64 = .ok (.getfield 57, 3) := by decide +kernel
theorem dX5_drop_67 : decode cX5_drop 67 = .ok (.iload_n 1, 1) := by decide +kernel
theorem dX5_drop_68 : decode cX5_drop 68 = .ok (.iload_n 2, 1) := by decide +kernel
theorem dX5_drop_69 : decode cX5_drop 69 = .ok (.invokevirtual 79, 3) := by decide +kernel
theorem dX5_drop_72 : decode cX5_drop 72 = .ok (.aload_n 0, 1) := by decide +kernel
theorem dX5_drop_73 : decode cX5_drop 73 = .ok (.getfield 12, 3) := by decide +kernel
theorem dX5_drop_76 : decode cX5_drop 76 = .ok (.getfield 57, 3) := by decide +kernel
theorem dX5_drop_79 : decode cX5_drop 79 = .ok (.iload_n 1, 1) := by decide +kernel
theorem dX5_drop_80 : decode cX5_drop 80 = .ok (.invokevirtual 67, 3) := by decide +kernel
theorem dX5_drop_83 : decode cX5_drop 83 = .ok (.ireturn, 1) := by decide +kernel
theorem dX5_delete_0 : decode cX5_delete 0 = .ok (.aload_n 0, 1) := by decide +kernel
theorem dX5_delete_1 : decode cX5_delete 1 = .ok (.iload_n 1, 1) := by decide +kernel
theorem dX5_delete_2 : decode cX5_delete 2 = .ok (.iconst 1, 1) := by decide +kernel
theorem dX5_delete_3 : decode cX5_delete 3 = .ok (.invokevirtual 83, 3) := by decide +kernel
theorem dX5_delete_6 : decode cX5_delete 6 = .ok (.ireturn, 1) := by decide +kernel
theorem dX5_setDeleted_0 : decode cX5_setDeleted 0 = .ok (.iload_n 1, 1) := by decide +kernel
theorem dX5_setDeleted_1 : decode cX5_setDeleted 1 = .ok (.invokestatic 48, 3) := by decide +kernel
theorem dX5_setDeleted_4 : decode cX5_setDeleted 4 = .ok (.ifCond .ne 5, 3) := by decide +kernel
theorem dX5_setDeleted_7 : decode cX5_setDeleted 7 = .ok (.iconst (-1), 1) := by decide +kernel
theorem dX5_setDeleted_8 : decode cX5_setDeleted 8 = .ok (.ireturn, 1) := by decide +kernel
theorem dX5_setDeleted_9 : decode cX5_setDeleted 9 = .ok (.aload_n 0, 1) := by decide +kernel
theorem dX5_setDeleted_10 : decode cX5_setDeleted 10 = .ok (.getfield 12, 3) := by decide +kernel
theorem dX5_setDeleted_13 : decode cX5_setDeleted 13 = .ok (.getfield 51, 3) := by decide +kernel
theorem dX5_setDeleted_16 : decode cX5_setDeleted 16 = .ok (.getfield 54, 3) := by decide +kernel
theorem dX5_setDeleted_19 : decode cX5_setDeleted 19 = .ok (.ifCond .eq 6, 3) := by decide +kernel
theorem dX5_setDeleted_22 : decode cX5_setDeleted 22 = .ok (.bipush (-4), 2) := by decide +kernel
theorem dX5_setDeleted_24 : decode cX5_setDeleted 24 = .ok (.ireturn, 1) := by decide +kernel
theorem dX5_setDeleted_25 : decode cX5_setDeleted 25 = .ok (.aload_n 0, 1) := by decide +kernel
theorem dX5_setDeleted_26 : decode cX5_setDeleted 26 = .ok (.getfield 12, 3) := by decide +kernel
theorem dX5_setDeleted_29 : decode cX5_setDeleted 29 = .ok (.getfield 57, 3) := by decide +kernel
theorem dX5_setDeleted_32 : decode cX5_setDeleted 32 = .ok (.iload_n 1, 1) := by decide +kernel
theorem dX5_setDeleted_33 : decode cX5_setDeleted 33 = .ok (.invokevirtual 87, 3) := by decide +kernel
theorem dX5_setDeleted_36 : decode cX5_setDeleted 36 = .ok (.iload_n 2, 1) := by decide +kernel
theorem dX5_setDeleted_37 : decode cX5_setDeleted 37 = .ok (.if_icmp .ne 6, 3) := by decide +kernel
theorem dX5_setDeleted_40 : decode cX5_setDeleted 40 = .ok (.bipush (-5), 2) := by decide +kernel
theorem dX5_setDeleted_42 : decode cX5_setDeleted 42 = .ok (.ireturn, 1) := by decide +kernel
theorem dX5_setDeleted_43 : decode cX5_setDeleted 43 = .ok (.aload_n 0, 1) := by decide +kernel
theorem dX5_setDeleted_44 : decode cX5_setDeleted 44 = .ok (.getfield 19, 3) := by decide +kernel
theorem dX5_setDeleted_47 : decode cX5_setDeleted 47 = .ok (.aload_n 0, 1) := by decide +kernel
theorem dX5_setDeleted_48 : decode cX5_setDeleted 48 = .ok (.getfield 12, 3) := by decide +kernel
theorem dX5_setDeleted_51 : decode cX5_setDeleted 51 = .ok (.invokevirtual 71, 3) := by decide +kernel
theorem dX5_setDeleted_54 : decode cX5_setDeleted 54 = .ok (.aload_n 0, 1) := by decide +kernel
theorem dX5_setDeleted_55 : decode cX5_setDeleted 55 = .ok (.getfield 12, 3) := by decide +kernel
theorem dX5_setDeleted_58 : decode cX5_setDeleted 58 = .ok (.getfield 57, 3) := by decide +kernel
theorem dX5_setDeleted_61 : decode cX5_setDeleted 61 = .ok (.dup, 1) := by decide +kernel
theorem dX5_setDeleted_62 : decode cX5_setDeleted 62 = .ok (.getfield 90, 3) := by decide +kernel
theorem dX5_setDeleted_65 : decode cX5_setDeleted 65 = .ok (.lconst 1, 1) := by decide +kernel
theorem dX5_setDeleted_66 : decode cX5_setDeleted 66 = .ok (.iload_n 1, 1) := by decide +kernel
theorem dX5_setDeleted_67 : decode cX5_setDeleted 67 = .ok (.lshl, 1) := by decide +kernel
theorem dX5_setDeleted_68 : decode cX5_setDeleted 68 = .ok (.lxor, 1) := by decide +kernel
theorem dX5_setDeleted_69 : decode cX5_setDeleted 69 = .ok (.putfield 90, 3) := by decide +kernel
theorem dX5_setDeleted_72 : decode cX5_setDeleted 72 = .ok (.aload_n 0, 1) := by decide +kernel
theorem dX5_setDeleted_73 : decode cX5_setDeleted 73 = .ok (.getfield 12, 3) := by decide +kernel
theorem dX5_setDeleted_76 : decode cX5_setDeleted 76 = .ok (.getfield 57, 3) := by decide +kernel
theorem dX5_setDeleted_79 : decode cX5_setDeleted 79 = .ok (.iload_n 1, 1) := by decide +kernel
theorem dX5_setDeleted_80 : decode cX5_setDeleted 80 = .ok (.invokevirtual 94, 3) := by decide +kernel
theorem dX5_setDeleted_83 : decode cX5_setDeleted 83 = .ok (.invokestatic 97, 3) := by decide +kernel
theorem dX5_setDeleted_86 : decode cX5_setDeleted 86 = .ok (.ireturn, 1) := by decide +kernel
theorem dX5_weight_0 : decode cX5_weight 0 = .ok (.aload_n 0, 1) := by decide +kernel
theorem dX5_weight_1 : decode cX5_weight 1 = .ok (.aload_n 0, 1) := by decide +kernel
theorem dX5_weight_2 : decode cX5_weight 2 = .ok (.getfield 12, 3) := by decide +kernel
theorem dX5_weight_5 : decode cX5_weight 5 = .ok (.getfield 57, 3) := by decide +kernel
theorem dX5_weight_8 : decode cX5_weight 8 = .ok (.getfield 102, 3) := by decide +kernel
theorem dX5_weight_11 : decode cX5_weight 11 = .ok (.iload_n 1, 1) := by decide +kernel
theorem dX5_weight_12 : decode cX5_weight 12 = .ok (.iload_n 2, 1) := by decide +kernel
theorem dX5_weight_13 : decode cX5_weight 13 = .ok (.bipush 9, 2) := by decide +kernel
theorem dX5_weight_15 : decode cX5_weight 15 = .ok (.invokevirtual 106, 3) := by decide +kernel
theorem dX5_weight_18 : decode cX5_weight 18 = .ok (.ireturn, 1) := by decide +kernel
theorem dX5_want_0 : decode cX5_want 0 = .ok (.iload_n 1, 1) := by decide +kernel
theorem dX5_want_1 : decode cX5_want 1 = .ok (.iconst 1, 1) := by decide +kernel
theorem dX5_want_2 : decode cX5_want 2 = .ok (.if_icmp .lt 9, 3) := by decide +kernel
theorem dX5_want_5 : decode cX5_want 5 = .ok (.iload_n 1, 1) := by decide +kernel
theorem dX5_want_6 : decode cX5_want 6 = .ok (.bipush 10, 2) := by decide +kernel
theorem dX5_want_8 : decode cX5_want 8 = .ok (.if_icmp .le 6, 3) := by decide +kernel
theorem dX5_want_11 : decode cX5_want 11 = .ok (.bipush (-2), 2) := by decide +kernel
theorem dX5_want_13 : decode cX5_want 13 = .ok (.ireturn, 1) := by decide +kernel
theorem dX5_want_14 : decode cX5_want 14 = .ok (.aload_n 0, 1) := by decide +kernel
theorem dX5_want_15 : decode cX5_want 15 = .ok (.getfield 12, 3) := by decide +kernel
theorem dX5_want_18 : decode cX5_want 18 = .ok (.getfield 51, 3) := by decide +kernel
theorem dX5_want_21 : decode cX5_want 21 = .ok (.getfield 54, 3) := by decide +kernel
theorem dX5_want_24 : decode cX5_want 24 = .ok (.ifCond .eq 6, 3) := by decide +kernel
theorem dX5_want_27 : decode cX5_want 27 = .ok (.bipush (-4), 2) := by decide +kernel
theorem dX5_want_29 : decode cX5_want 29 = .ok (.ireturn, 1) := by decide +kernel
theorem dX5_want_30 : decode cX5_want 30 = .ok (.aload_n 0, 1) := by decide +kernel
theorem dX5_want_31 : decode cX5_want 31 = .ok (.getfield 12, 3) := by decide +kernel
theorem dX5_want_34 : decode cX5_want 34 = .ok (.getfield 57, 3) := by decide +kernel
theorem dX5_want_37 : decode cX5_want 37 = .ok (.getfield 110, 3) := by decide +kernel
theorem dX5_want_40 : decode cX5_want 40 = .ok (.istore_n 2, 1) := by decide +kernel
theorem dX5_want_41 : decode cX5_want 41 = .ok (.iload_n 2, 1) := by decide +kernel
theorem dX5_want_42 : decode cX5_want 42 = .ok (.iload_n 1, 1) := by decide +kernel
theorem dX5_want_43 : decode cX5_want 43 = .ok (.if_icmp .ne 6, 3) := by decide +kernel
theorem dX5_want_46 : decode cX5_want 46 = .ok (.bipush (-5), 2) := by decide +kernel
theorem dX5_want_48 : decode cX5_want 48 = .ok (.ireturn, 1) := by decide +kernel
theorem dX5_want_49 : decode cX5_want 49 = .ok (.aload_n 0, 1) := by decide +kernel
theorem dX5_want_50 : decode cX5_want 50 = .ok (.getfield 19, 3) := by decide +kernel
theorem dX5_want_53 : decode cX5_want 53 = .ok (.aload_n 0, 1) := by decide +kernel
theorem dX5_want_54 : decode cX5_want 54 = .ok (.getfield 12, 3) := by decide +kernel
theorem dX5_want_57 : decode cX5_want 57 = .ok (.invokevirtual 71, 3) := by decide +kernel
theorem dX5_want_60 : decode cX5_want 60 = .ok (.aload_n 0, 1) := by decide +kernel
theorem dX5_want_61 : decode cX5_want 61 = .ok (.getfield 12, 3) := by decide +kernel
theorem dX5_want_64 : decode cX5_want 64 = .ok (.getfield 57, 3) := by decide +kernel
theorem dX5_want_67 : decode cX5_want 67 = .ok (.iload_n 1, 1) := by decide +kernel
theorem dX5_want_68 : decode cX5_want 68 = .ok (.putfield 110, 3) := by decide +kernel
theorem dX5_want_71 : decode cX5_want 71 = .ok (.iload_n 2, 1) := by decide +kernel
theorem dX5_want_72 : decode cX5_want 72 = .ok (.ireturn, 1) := by decide +kernel
theorem dX5_setOfList_0 : decode cX5_setOfList 0 = .ok (.iload_n 2, 1) := by decide +kernel
theorem dX5_setOfList_1 : decode cX5_setOfList 1 = .ok (.invokestatic 44, 3) := by decide +kernel
theorem dX5_setOfList_4 : decode cX5_setOfList 4 = .ok (.ifCond .ne 5, 3) := by decide +kernel
theorem dX5_setOfList_7 : decode cX5_setOfList 7 = .ok (.iconst (-1), 1) := by decide +kernel
theorem dX5_setOfList_8 : decode cX5_setOfList 8 = .ok (.ireturn, 1) := by decide +kernel
theorem dX5_setOfList_9 : decode cX5_setOfList 9 = .ok (.iload_n 3, 1) := by decide +kernel
theorem dX5_setOfList_10 : decode cX5_setOfList 10 = .ok (.ifCond .lt 9, 3) := by decide +kernel
theorem dX5_setOfList_13 : decode cX5_setOfList 13 = .ok (.iload_n 3, 1) := by decide +kernel
theorem dX5_setOfList_14 : decode cX5_setOfList 14 = .ok (.iload 4, 2) := by decide +kernel
theorem dX5_setOfList_16 : decode cX5_setOfList 16 = .ok (.if_icmp .le 6, 3) := by decide +kernel
theorem dX5_setOfList_19 : decode cX5_setOfList 19 = .ok (.bipush (-2), 2) := by decide +kernel
theorem dX5_setOfList_21 : decode cX5_setOfList 21 = .ok (.ireturn, 1) := by decide +kernel
theorem dX5_setOfList_22 : decode cX5_setOfList 22 = .ok (.aload_n 0, 1) := by decide +kernel
theorem dX5_setOfList_23 : decode cX5_setOfList 23 = .ok (.getfield 12, 3) := by decide +kernel
theorem dX5_setOfList_26 : decode cX5_setOfList 26 = .ok (.getfield 51, 3) := by decide +kernel
theorem dX5_setOfList_29 : decode cX5_setOfList 29 = .ok (.getfield 54, 3) := by decide +kernel
theorem dX5_setOfList_32 : decode cX5_setOfList 32 = .ok (.ifCond .eq 6, 3) := by decide +kernel
theorem dX5_setOfList_35 : decode cX5_setOfList 35 = .ok (.bipush (-4), 2) := by decide +kernel
theorem dX5_setOfList_37 : decode cX5_setOfList 37 = .ok (.ireturn, 1) := by decide +kernel
theorem dX5_setOfList_38 : decode cX5_setOfList 38 = .ok (.aload_n 1, 1) := by decide +kernel
theorem dX5_setOfList_39 : decode cX5_setOfList 39 = .ok (.iload_n 2, 1) := by decide +kernel
theorem dX5_setOfList_40 : decode cX5_setOfList 40 = .ok (.invokestatic 117, 3) := by decide +kernel
theorem dX5_setOfList_43 : decode cX5_setOfList 43 = .ok (.istore 5, 2) := by decide +kernel
theorem dX5_setOfList_45 : decode cX5_setOfList 45 = .ok (.iload 5, 2) := by decide +kernel
theorem dX5_setOfList_47 : decode cX5_setOfList 47 = .ok (.iload_n 3, 1) := by decide +kernel
theorem dX5_setOfList_48 : decode cX5_setOfList 48 = .ok (.if_icmp .ne 6, 3) := by decide +kernel
theorem dX5_setOfList_51 : decode cX5_setOfList 51 = .ok (.bipush (-5), 2) := by decide +kernel
theorem dX5_setOfList_53 : decode cX5_setOfList 53 = .ok (.ireturn, 1) := by decide +kernel
theorem dX5_setOfList_54 : decode cX5_setOfList 54 = .ok (.aload_n 0, 1) := by decide +kernel
theorem dX5_setOfList_55 : decode cX5_setOfList 55 = .ok (.getfield 19, 3) := by decide +kernel
theorem dX5_setOfList_58 : decode cX5_setOfList 58 = .ok (.aload_n 0, 1) := by decide +kernel
theorem dX5_setOfList_59 : decode cX5_setOfList 59 = .ok (.getfield 12, 3) := by decide +kernel
theorem dX5_setOfList_62 : decode cX5_setOfList 62 = .ok (.invokevirtual 71, 3) := by decide +kernel
theorem dX5_setOfList_65 : decode cX5_setOfList 65 = .ok (.aload_n 1, 1) := by decide +kernel
theorem dX5_setOfList_66 : decode cX5_setOfList 66 = .ok (.iload_n 2, 1) := by decide +kernel
theorem dX5_setOfList_67 : decode cX5_setOfList 67 = .ok (.iload_n 3, 1) := by decide +kernel
theorem dX5_setOfList_68 : decode cX5_setOfList 68 = .ok (.invokestatic 121, 3) := by decide +kernel
theorem dX5_setOfList_71 : decode cX5_setOfList 71 = .ok (.iload 5, 2) := by decide +kernel
theorem dX5_setOfList_73 : decode cX5_setOfList 73 = .ok (.ireturn, 1) := by decide +kernel
theorem dX5_begin_0 : decode cX5_begin 0 = .ok (.iload_n 1, 1) := by decide +kernel
theorem dX5_begin_1 : decode cX5_begin 1 = .ok (.invokestatic 125, 3) := by decide +kernel
theorem dX5_begin_4 : decode cX5_begin 4 = .ok (.ifCond .ne 6, 3) := by decide +kernel
theorem dX5_begin_7 : decode cX5_begin 7 = .ok (.bipush (-2), 2) := by decide +kernel
theorem dX5_begin_9 : decode cX5_begin 9 = .ok (.ireturn, 1) := by decide +kernel
theorem dX5_begin_10 : decode cX5_begin 10 = .ok (.aload_n 0, 1) := by decide +kernel
theorem dX5_begin_11 : decode cX5_begin 11 = .ok (.getfield 12, 3) := by decide +kernel
theorem dX5_begin_14 : decode cX5_begin 14 = .ok (.getfield 51, 3) := by decide +kernel
theorem dX5_begin_17 : decode cX5_begin 17 = .ok (.getfield 54, 3) := by decide +kernel
theorem dX5_begin_20 : decode cX5_begin 20 = .ok (.ifCond .ne 16, 3) := by decide +kernel
theorem dX5_begin_23 : decode cX5_begin 23 = .ok (.aload_n 0, 1) := by decide +kernel
theorem dX5_begin_24 : decode cX5_begin 24 = .ok (.getfield 12, 3) := by decide +kernel
theorem dX5_begin_27 : decode cX5_begin 27 = .ok (.getfield 57, 3) := by decide +kernel
theorem dX5_begin_30 : decode cX5_begin 30 = .ok (.invokevirtual 128, 3) := by decide +kernel
theorem dX5_begin_33 : decode cX5_begin 33 = .ok (.ifCond .ne 6, 3) := by decide +kernel
theorem dX5_begin_36 : decode cX5_begin 36 = .ok (.bipush (-4), 2) := by decide +kernel
theorem dX5_begin_38 : decode cX5_begin 38 = .ok (.ireturn, 1) := by decide +kernel
theorem dX5_begin_39 : decode cX5_begin 39 = .ok (.aload_n 0, 1) := by decide +kernel
theorem dX5_begin_40 : decode cX5_begin 40 = .ok (.getfield 19, 3) := by decide +kernel
theorem dX5_begin_43 : decode cX5_begin 43 = .ok (.aload_n 0, 1) := by decide +kernel
theorem dX5_begin_44 : decode cX5_begin 44 = .ok (.getfield 12, 3) := by decide +kernel
theorem dX5_begin_47 : decode cX5_begin 47 = .ok (.invokevirtual 71, 3) := by decide +kernel
theorem dX5_begin_50 : decode cX5_begin 50 = .ok (.aload_n 0, 1) := by decide +kernel
theorem dX5_begin_51 : decode cX5_begin 51 = .ok (.getfield 12, 3) := by decide +kernel
theorem dX5_begin_54 : decode cX5_begin 54 = .ok (.dup, 1) := by decide +kernel
theorem dX5_begin_55 : decode cX5_begin 55 = .ok (.getfield 132, 3) := by decide +kernel
theorem dX5_begin_58 : decode cX5_begin 58 = .ok (.iconst 1, 1) := by decide +kernel
theorem dX5_begin_59 : decode cX5_begin 59 = .ok (.iadd, 1) := by decide +kernel
theorem dX5_begin_60 : decode cX5_begin 60 = .ok (.putfield 132, 3) := by decide +kernel
theorem dX5_begin_63 : decode cX5_begin 63 = .ok (.aload_n 0, 1) := by decide +kernel
theorem dX5_begin_64 : decode cX5_begin 64 = .ok (.getfield 12, 3) := by decide +kernel
theorem dX5_begin_67 : decode cX5_begin 67 = .ok (.getfield 51, 3) := by decide +kernel
theorem dX5_begin_70 : decode cX5_begin 70 = .ok (.aload_n 0, 1) := by decide +kernel
theorem dX5_begin_71 : decode cX5_begin 71 = .ok (.getfield 12, 3) := by decide +kernel
theorem dX5_begin_74 : decode cX5_begin 74 = .ok (.getfield 57, 3) := by decide +kernel
theorem dX5_begin_77 : decode cX5_begin 77 = .ok (.iload_n 1, 1) := by decide +kernel
theorem dX5_begin_78 : decode cX5_begin 78 = .ok (.iload_n 2, 1) := by decide +kernel
theorem dX5_begin_79 : decode cX5_begin 79 = .ok (.invokevirtual 135, 3) := by decide +kernel
theorem dX5_begin_82 : decode cX5_begin 82 = .ok (.aload_n 0, 1) := by decide +kernel
theorem dX5_begin_83 : decode cX5_begin 83 = .ok (.getfield 12, 3) := by decide +kernel
theorem dX5_begin_86 : decode cX5_begin 86 = .ok (.getfield 51, 3) := by decide +kernel
theorem dX5_begin_89 : decode cX5_begin 89 = .ok (.aload_n 0, 1) := by decide +kernel
theorem dX5_begin_90 : decode cX5_begin 90 = .ok (.getfield 12, 3) := by decide +kernel
theorem dX5_begin_93 : decode cX5_begin 93 = .ok (.getfield 57, 3) := by decide +kernel
theorem dX5_begin_96 : decode cX5_begin 96 = .ok (.invokevirtual 139, 3) := by decide +kernel
theorem dX5_begin_99 : decode cX5_begin 99 = .ok (.invokestatic 143, 3) := by decide +kernel
theorem dX5_begin_102 : decode cX5_begin 102 = .ok (.ireturn, 1) := by decide +kernel
theorem dX5_step_0 : decode cX5_step 0 = .ok (.iload_n 1, 1) := by decide +kernel
theorem dX5_step_1 : decode cX5_step 1 = .ok (.iconst 1, 1) := by decide +kernel
theorem dX5_step_2 : decode cX5_step 2 = .ok (.if_icmp .lt 10, 3) := by decide +kernel
theorem dX5_step_5 : decode cX5_step 5 = .ok (.iload_n 1, 1) := by decide +kernel
theorem dX5_step_6 : decode cX5_step 6 = .ok (.sipush 240, 3) := by decide +kernel
theorem dX5_step_9 : decode cX5_step 9 = .ok (.if_icmp .le 6, 3) := by decide +kernel
theorem dX5_step_12 : decode cX5_step 12 = .ok (.bipush (-2), 2) := by decide +kernel
theorem dX5_step_14 : decode cX5_step 14 = .ok (.ireturn, 1) := by decide +kernel
theorem dX5_step_15 : decode cX5_step 15 = .ok (.aload_n 0, 1) := by decide +kernel
theorem dX5_step_16 : decode cX5_step 16 = .ok (.getfield 12, 3) := by decide +kernel
theorem dX5_step_19 : decode cX5_step 19 = .ok (.getfield 51, 3) := by decide +kernel
theorem dX5_step_22 : decode cX5_step 22 = .ok (.getfield 54, 3) := by decide +kernel
theorem dX5_step_25 : decode cX5_step 25 = .ok (.ifCond .ne 6, 3) := by decide +kernel
theorem dX5_step_28 : decode cX5_step 28 = .ok (.bipush (-4), 2) := by decide +kernel
theorem dX5_step_30 : decode cX5_step 30 = .ok (.ireturn, 1) := by decide +kernel
theorem dX5_step_31 : decode cX5_step 31 = .ok (.aload_n 0, 1) := by decide +kernel
theorem dX5_step_32 : decode cX5_step 32 = .ok (.getfield 12, 3) := by decide +kernel
theorem dX5_step_35 : decode cX5_step 35 = .ok (.getfield 51, 3) := by decide +kernel
theorem dX5_step_38 : decode cX5_step 38 = .ok (.aload_n 0, 1) := by decide +kernel
theorem dX5_step_39 : decode cX5_step 39 = .ok (.getfield 12, 3) := by decide +kernel
theorem dX5_step_42 : decode cX5_step 42 = .ok (.getfield 57, 3) := by decide +kernel
theorem dX5_step_45 : decode cX5_step 45 = .ok (.invokevirtual 139, 3) := by decide +kernel
theorem dX5_step_48 : decode cX5_step 48 = .ok (.ifCond .eq 6, 3) := by decide +kernel
theorem dX5_step_51 : decode cX5_step 51 = .ok (.bipush (-5), 2) := by decide +kernel
theorem dX5_step_53 : decode cX5_step 53 = .ok (.ireturn, 1) := by decide +kernel
theorem dX5_step_54 : decode cX5_step 54 = .ok (.aload_n 0, 1) := by decide +kernel
theorem dX5_step_55 : decode cX5_step 55 = .ok (.getfield 19, 3) := by decide +kernel
theorem dX5_step_58 : decode cX5_step 58 = .ok (.aload_n 0, 1) := by decide +kernel
theorem dX5_step_59 : decode cX5_step 59 = .ok (.getfield 12, 3) := by decide +kernel
theorem dX5_step_62 : decode cX5_step 62 = .ok (.invokevirtual 71, 3) := by decide +kernel
theorem dX5_step_65 : decode cX5_step 65 = .ok (.aload_n 0, 1) := by decide +kernel
theorem dX5_step_66 : decode cX5_step 66 = .ok (.getfield 12, 3) := by decide +kernel
theorem dX5_step_69 : decode cX5_step 69 = .ok (.getfield 51, 3) := by decide +kernel
theorem dX5_step_72 : decode cX5_step 72 = .ok (.invokevirtual 147, 3) := by decide +kernel
theorem dX5_step_75 : decode cX5_step 75 = .ok (.istore_n 2, 1) := by decide +kernel
theorem dX5_step_76 : decode cX5_step 76 = .ok (.aload_n 0, 1) := by decide +kernel
theorem dX5_step_77 : decode cX5_step 77 = .ok (.getfield 12, 3) := by decide +kernel
theorem dX5_step_80 : decode cX5_step 80 = .ok (.getfield 51, 3) := by decide +kernel
theorem dX5_step_83 : decode cX5_step 83 = .ok (.aload_n 0, 1) := by decide +kernel
theorem dX5_step_84 : decode cX5_step 84 = .ok (.getfield 12, 3) := by decide +kernel
theorem dX5_step_87 : decode cX5_step 87 = .ok (.getfield 57, 3) := by decide +kernel
theorem dX5_step_90 : decode cX5_step 90 = .ok (.iload_n 1, 1) := by decide +kernel
theorem dX5_step_91 : decode cX5_step 91 = .ok (.invokevirtual 150, 3) := by decide +kernel
theorem dX5_step_94 : decode cX5_step 94 = .ok (.istore_n 3, 1) := by decide +kernel
theorem dX5_step_95 : decode cX5_step 95 = .ok (.aload_n 0, 1) := by decide +kernel
theorem dX5_step_96 : decode cX5_step 96 = .ok (.getfield 12, 3) := by decide +kernel
theorem dX5_step_99 : decode cX5_step 99 = .ok (.dup, 1) := by decide +kernel
theorem dX5_step_100 : decode cX5_step 100 = .ok (.getfield 154, 3) := by decide +kernel
theorem dX5_step_103 : decode cX5_step 103 = .ok (.aload_n 0, 1) := by decide +kernel
theorem dX5_step_104 : decode cX5_step 104 = .ok (.getfield 12, 3) := by decide +kernel
theorem dX5_step_107 : decode cX5_step 107 = .ok (.getfield 51, 3) := by decide +kernel
theorem dX5_step_110 : decode cX5_step 110 = .ok (.invokevirtual 147, 3) := by decide +kernel
theorem dX5_step_113 : decode cX5_step 113 = .ok (.iload_n 2, 1) := by decide +kernel
theorem dX5_step_114 : decode cX5_step 114 = .ok (.isub, 1) := by decide +kernel
theorem dX5_step_115 : decode cX5_step 115 = .ok (.iadd, 1) := by decide +kernel
theorem dX5_step_116 : decode cX5_step 116 = .ok (.putfield 154, 3) := by decide +kernel
theorem dX5_step_119 : decode cX5_step 119 = .ok (.iload_n 3, 1) := by decide +kernel
theorem dX5_step_120 : decode cX5_step 120 = .ok (.ireturn, 1) := by decide +kernel
theorem dX5_end_0 : decode cX5_end 0 = .ok (.aload_n 0, 1) := by decide +kernel
theorem dX5_end_1 : decode cX5_end 1 = .ok (.getfield 12, 3) := by decide +kernel
theorem dX5_end_4 : decode cX5_end 4 = .ok (.getfield 51, 3) := by decide +kernel
theorem dX5_end_7 : decode cX5_end 7 = .ok (.getfield 54, 3) := by decide +kernel
theorem dX5_end_10 : decode cX5_end 10 = .ok (.ifCond .ne 6, 3) := by decide +kernel
theorem dX5_end_13 : decode cX5_end 13 = .ok (.bipush (-4), 2) := by decide +kernel
theorem dX5_end_15 : decode cX5_end 15 = .ok (.ireturn, 1) := by decide +kernel
theorem dX5_end_16 : decode cX5_end 16 = .ok (.aload_n 0, 1) := by decide +kernel
theorem dX5_end_17 : decode cX5_end 17 = .ok (.getfield 19, 3) := by decide +kernel
theorem dX5_end_20 : decode cX5_end 20 = .ok (.aload_n 0, 1) := by decide +kernel
theorem dX5_end_21 : decode cX5_end 21 = .ok (.getfield 12, 3) := by decide +kernel
theorem dX5_end_24 : decode cX5_end 24 = .ok (.invokevirtual 71, 3) := by decide +kernel
theorem dX5_end_27 : decode cX5_end 27 = .ok (.aload_n 0, 1) := by decide +kernel
theorem dX5_end_28 : decode cX5_end 28 = .ok (.getfield 12, 3) := by decide +kernel
theorem dX5_end_31 : decode cX5_end 31 = .ok (.getfield 51, 3) := by decide +kernel
theorem dX5_end_34 : decode cX5_end 34 = .ok (.iconst 0, 1) := by decide +kernel
theorem dX5_end_35 : decode cX5_end 35 = .ok (.putfield 54, 3) := by decide +kernel
theorem dX5_end_38 : decode cX5_end 38 = .ok (.aload_n 0, 1) := by decide +kernel
theorem dX5_end_39 : decode cX5_end 39 = .ok (.getfield 12, 3) := by decide +kernel
theorem dX5_end_42 : decode cX5_end 42 = .ok (.getfield 51, 3) := by decide +kernel
theorem dX5_end_45 : decode cX5_end 45 = .ok (.aload_n 0, 1) := by decide +kernel
theorem dX5_end_46 : decode cX5_end 46 = .ok (.getfield 12, 3) := by decide +kernel
theorem dX5_end_49 : decode cX5_end 49 = .ok (.getfield 57, 3) := by decide +kernel
theorem dX5_end_52 : decode cX5_end 52 = .ok (.invokevirtual 157, 3) := by decide +kernel
theorem dX5_end_55 : decode cX5_end 55 = .ok (.ireturn, 1) := by decide +kernel
theorem dX5_list_0 : decode cX5_list 0 = .ok (.iload_n 1, 1) := by decide +kernel
theorem dX5_list_1 : decode cX5_list 1 = .ok (.invokestatic 44, 3) := by decide +kernel
theorem dX5_list_4 : decode cX5_list 4 = .ok (.ifCond .ne 5, 3) := by decide +kernel
theorem dX5_list_7 : decode cX5_list 7 = .ok (.iconst (-1), 1) := by decide +kernel
theorem dX5_list_8 : decode cX5_list 8 = .ok (.ireturn, 1) := by decide +kernel
theorem dX5_list_9 : decode cX5_list 9 = .ok (.iload_n 2, 1) := by decide +kernel
theorem dX5_list_10 : decode cX5_list 10 = .ok (.tableswitch 98 0 4 #[34, 46, 58, 73, 86], 34) := by decide +kernel
theorem dX5_list_44 : decode cX5_list 44 = .ok (.aload_n 0, 1) := by decide +kernel
theorem dX5_list_45 : decode cX5_list 45 = .ok (.getfield 12, 3) := by decide +kernel
theorem dX5_list_48 : decode cX5_list 48 = .ok (.getfield 57, 3) := by decide +kernel
theorem dX5_list_51 : decode cX5_list 51 = .ok (.iload_n 1, 1) := by decide +kernel
theorem dX5_list_52 : decode cX5_list 52 = .ok (.invokevirtual 67, 3) := by decide +kernel
theorem dX5_list_55 : decode cX5_list 55 = .ok (.ireturn, 1) := by decide +kernel
theorem dX5_list_56 : decode cX5_list 56 = .ok (.aload_n 0, 1) := by decide +kernel
theorem dX5_list_57 : decode cX5_list 57 = .ok (.getfield 12, 3) := by decide +kernel
theorem dX5_list_60 : decode cX5_list 60 = .ok (.getfield 57, 3) := by decide +kernel
theorem dX5_list_63 : decode cX5_list 63 = .ok (.iload_n 1, 1) := by decide +kernel
theorem dX5_list_64 : decode cX5_list 64 = .ok (.invokevirtual 210, 3) := by decide +kernel
theorem dX5_list_67 : decode cX5_list 67 = .ok (.ireturn, 1) := by decide +kernel
theorem dX5_list_68 : decode cX5_list 68 = .ok (.aload_n 0, 1) := by decide +kernel
theorem dX5_list_69 : decode cX5_list 69 = .ok (.getfield 12, 3) := by decide +kernel
theorem dX5_list_72 : decode cX5_list 72 = .ok (.getfield 57, 3) := by decide +kernel
theorem dX5_list_75 : decode cX5_list 75 = .ok (.getfield 114, 3) := by decide +kernel
theorem dX5_list_78 : decode cX5_list 78 = .ok (.iload_n 1, 1) := by decide +kernel
theorem dX5_list_79 : decode cX5_list 79 = .ok (.invokestatic 117, 3) := by decide +kernel
theorem dX5_list_82 : decode cX5_list 82 = .ok (.ireturn, 1) := by decide +kernel
theorem dX5_list_83 : decode cX5_list 83 = .ok (.aload_n 0, 1) := by decide +kernel
theorem dX5_list_84 : decode cX5_list 84 = .ok (.getfield 12, 3) := by decide +kernel
theorem dX5_list_87 : decode cX5_list 87 = .ok (.getfield 57, 3) := by decide +kernel
theorem dX5_list_90 : decode cX5_list 90 = .ok (.iload_n 1, 1) := by decide +kernel
theorem dX5_list_91 : decode cX5_list 91 = .ok (.iconst 0, 1) := by decide +kernel
theorem dX5_list_92 : decode cX5_list 92 = .ok (.invokevirtual 213, 3) := by decide +kernel
theorem dX5_list_95 : decode cX5_list 95 = .ok (.ireturn, 1) := by decide +kernel
theorem dX5_list_96 : decode cX5_list 96 = .ok (.aload_n 0, 1) := by decide +kernel
theorem dX5_list_97 : decode cX5_list 97 = .ok (.getfield 12, 3) := by decide +kernel
theorem dX5_list_100 : decode cX5_list 100 = .ok (.getfield 57, 3) := by decide +kernel
theorem dX5_list_103 : decode cX5_list 103 = .ok (.iload_n 1, 1) := by decide +kernel
theorem dX5_list_104 : decode cX5_list 104 = .ok (.invokevirtual 216, 3) := by decide +kernel
theorem dX5_list_107 : decode cX5_list 107 = .ok (.ireturn, 1) := by decide +kernel
theorem dX5_list_108 : decode cX5_list 108 = .ok (.bipush (-2), 2) := by decide +kernel
theorem dX5_list_110 : decode cX5_list 110 = .ok (.ireturn, 1) := by decide +kernel
theorem dX5_entry_0 : decode cX5_entry 0 = .ok (.iload_n 1, 1) := by decide +kernel
theorem dX5_entry_1 : decode cX5_entry 1 = .ok (.invokestatic 44, 3) := by decide +kernel
theorem dX5_entry_4 : decode cX5_entry 4 = .ok (.ifCond .ne 5, 3) := by decide +kernel
theorem dX5_entry_7 : decode cX5_entry 7 = .ok (.iconst (-1), 1) := by decide +kernel
theorem dX5_entry_8 : decode cX5_entry 8 = .ok (.ireturn, 1) := by decide +kernel
theorem dX5_entry_9 : decode cX5_entry 9 = .ok (.iload_n 2, 1) := by decide +kernel
theorem dX5_entry_10 : decode cX5_entry 10 = .ok (.ifCond .lt 12, 3) := by decide +kernel
theorem dX5_entry_13 : decode cX5_entry 13 = .ok (.iload_n 3, 1) := by decide +kernel
theorem dX5_entry_14 : decode cX5_entry 14 = .ok (.ifCond .lt 8, 3) := by decide +kernel
theorem dX5_entry_17 : decode cX5_entry 17 = .ok (.iload_n 3, 1) := by decide +kernel
theorem dX5_entry_18 : decode cX5_entry 18 = .ok (.iconst 1, 1) := by decide +kernel
theorem dX5_entry_19 : decode cX5_entry 19 = .ok (.if_icmp .le 6, 3) := by decide +kernel
theorem dX5_entry_22 : decode cX5_entry 22 = .ok (.bipush (-2), 2) := by decide +kernel
theorem dX5_entry_24 : decode cX5_entry 24 = .ok (.ireturn, 1) := by decide +kernel
theorem dX5_entry_25 : decode cX5_entry 25 = .ok (.iload_n 2, 1) := by decide +kernel
theorem dX5_entry_26 : decode cX5_entry 26 = .ok (.aload_n 0, 1) := by decide +kernel
theorem dX5_entry_27 : decode cX5_entry 27 = .ok (.getfield 12, 3) := by decide +kernel
theorem dX5_entry_30 : decode cX5_entry 30 = .ok (.getfield 57, 3) := by decide +kernel
theorem dX5_entry_33 : decode cX5_entry 33 = .ok (.iload_n 1, 1) := by decide +kernel
theorem dX5_entry_34 : decode cX5_entry 34 = .ok (.invokevirtual 67, 3) := by decide +kernel
theorem dX5_entry_37 : decode cX5_entry 37 = .ok (.if_icmp .lt 6, 3) := by decide +kernel
theorem dX5_entry_40 : decode cX5_entry 40 = .ok (.bipush (-5), 2) := by decide +kernel
theorem dX5_entry_42 : decode cX5_entry 42 = .ok (.ireturn, 1) := by decide +kernel
theorem dX5_entry_43 : decode cX5_entry 43 = .ok (.iload_n 3, 1) := by decide +kernel
theorem dX5_entry_44 : decode cX5_entry 44 = .ok (.ifCond .ne 18, 3) := by decide +kernel
theorem dX5_entry_47 : decode cX5_entry 47 = .ok (.aload_n 0, 1) := by decide +kernel
theorem dX5_entry_48 : decode cX5_entry 48 = .ok (.getfield 12, 3) := by decide +kernel
theorem dX5_entry_51 : decode cX5_entry 51 = .ok (.getfield 57, 3) := by decide +kernel
theorem dX5_entry_54 : decode cX5_entry 54 = .ok (.iload_n 1, 1) := by decide +kernel
theorem dX5_entry_55 : decode cX5_entry 55 = .ok (.iload_n 2, 1) := by decide +kernel
theorem dX5_entry_56 : decode cX5_entry 56 = .ok (.invokevirtual 219, 3) := by decide +kernel
theorem dX5_entry_59 : decode cX5_entry 59 = .ok (.goto 15, 3) := by decide +kernel
theorem dX5_entry_62 : decode cX5_entry 62 = .ok (.aload_n 0, 1) := by decide +kernel
theorem dX5_entry_63 : decode cX5_entry 63 = .ok (.getfield 12, 3) := by decide +kernel
theorem dX5_entry_66 : decode cX5_entry 66 = .ok (.getfield 57, 3) := by decide +kernel
theorem dX5_entry_69 : decode cX5_entry 69 = .ok (.iload_n 1, 1) := by decide +kernel
theorem dX5_entry_70 : decode cX5_entry 70 = .ok (.iload_n 2, 1) := by decide +kernel
theorem dX5_entry_71 : decode cX5_entry 71 = .ok (.invokevirtual 213, 3) := by decide +kernel
theorem dX5_entry_74 : decode cX5_entry 74 = .ok (.ireturn, 1) := by decide +kernel
theorem dX5_document_0 : decode cX5_document 0 = .ok (.iload_n 1, 1) := by decide +kernel
theorem dX5_document_1 : decode cX5_document 1 = .ok (.invokestatic 48, 3) := by decide +kernel
theorem dX5_document_4 : decode cX5_document 4 = .ok (.ifCond .ne 5, 3) := by decide +kernel
theorem dX5_document_7 : decode cX5_document 7 = .ok (.iconst (-1), 1) := by decide +kernel
theorem dX5_document_8 : decode cX5_document 8 = .ok (.ireturn, 1) := by decide +kernel
theorem dX5_document_9 : decode cX5_document 9 = .ok (.iload_n 2, 1) := by decide +kernel
theorem dX5_document_10 : decode cX5_document 10 = .ok (.tableswitch 81 0 3 #[30, 45, 57, 69], 30) := by decide +kernel
theorem dX5_document_40 : decode cX5_document 40 = .ok (.aload_n 0, 1) := by decide +kernel
theorem dX5_document_41 : decode cX5_document 41 = .ok (.getfield 12, 3) := by decide +kernel
theorem dX5_document_44 : decode cX5_document 44 = .ok (.getfield 57, 3) := by decide +kernel
theorem dX5_document_47 : decode cX5_document 47 = .ok (.iload_n 1, 1) := by decide +kernel
theorem dX5_document_48 : decode cX5_document 48 = .ok (.invokevirtual 87, 3) := by decide +kernel
theorem dX5_document_51 : decode cX5_document 51 = .ok (.invokestatic 143, 3) := by decide +kernel
theorem dX5_document_54 : decode cX5_document 54 = .ok (.ireturn, 1) := by decide +kernel
theorem dX5_document_55 : decode cX5_document 55 = .ok (.aload_n 0, 1) := by decide +kernel
theorem dX5_document_56 : decode cX5_document 56 = .ok (.getfield 12, 3) := by decide +kernel
theorem dX5_document_59 : decode cX5_document 59 = .ok (.getfield 57, 3) := by decide +kernel
theorem dX5_document_62 : decode cX5_document 62 = .ok (.iload_n 1, 1) := by decide +kernel
theorem dX5_document_63 : decode cX5_document 63 = .ok (.invokevirtual 222, 3) := by decide +kernel
theorem dX5_document_66 : decode cX5_document 66 = .ok (.ireturn, 1) := by decide +kernel
theorem dX5_document_67 : decode cX5_document 67 = .ok (.aload_n 0, 1) := by decide +kernel
theorem dX5_document_68 : decode cX5_document 68 = .ok (.getfield 12, 3) := by decide +kernel
theorem dX5_document_71 : decode cX5_document 71 = .ok (.getfield 57, 3) := by decide +kernel
theorem dX5_document_74 : decode cX5_document 74 = .ok (.iload_n 1, 1) := by decide +kernel
theorem dX5_document_75 : decode cX5_document 75 = .ok (.invokevirtual 94, 3) := by decide +kernel
theorem dX5_document_78 : decode cX5_document 78 = .ok (.ireturn, 1) := by decide +kernel
theorem dX5_document_79 : decode cX5_document 79 = .ok (.aload_n 0, 1) := by decide +kernel
theorem dX5_document_80 : decode cX5_document 80 = .ok (.getfield 12, 3) := by decide +kernel
theorem dX5_document_83 : decode cX5_document 83 = .ok (.getfield 57, 3) := by decide +kernel
theorem dX5_document_86 : decode cX5_document 86 = .ok (.iload_n 1, 1) := by decide +kernel
theorem dX5_document_87 : decode cX5_document 87 = .ok (.invokevirtual 225, 3) := by decide +kernel
theorem dX5_document_90 : decode cX5_document 90 = .ok (.ireturn, 1) := by decide +kernel
theorem dX5_document_91 : decode cX5_document 91 = .ok (.bipush (-2), 2) := by decide +kernel
theorem dX5_document_93 : decode cX5_document 93 = .ok (.ireturn, 1) := by decide +kernel
theorem dX5_wanted_0 : decode cX5_wanted 0 = .ok (.iload_n 1, 1) := by decide +kernel
theorem dX5_wanted_1 : decode cX5_wanted 1 = .ok (.ifCond .ge 6, 3) := by decide +kernel
theorem dX5_wanted_4 : decode cX5_wanted 4 = .ok (.bipush (-2), 2) := by decide +kernel
theorem dX5_wanted_6 : decode cX5_wanted 6 = .ok (.ireturn, 1) := by decide +kernel
theorem dX5_wanted_7 : decode cX5_wanted 7 = .ok (.aload_n 0, 1) := by decide +kernel
theorem dX5_wanted_8 : decode cX5_wanted 8 = .ok (.getfield 12, 3) := by decide +kernel
theorem dX5_wanted_11 : decode cX5_wanted 11 = .ok (.getfield 57, 3) := by decide +kernel
theorem dX5_wanted_14 : decode cX5_wanted 14 = .ok (.iload_n 1, 1) := by decide +kernel
theorem dX5_wanted_15 : decode cX5_wanted 15 = .ok (.invokevirtual 228, 3) := by decide +kernel
theorem dX5_wanted_18 : decode cX5_wanted 18 = .ok (.ireturn, 1) := by decide +kernel
theorem dX5_seen_0 : decode cX5_seen 0 = .ok (.iload_n 1, 1) := by decide +kernel
theorem dX5_seen_1 : decode cX5_seen 1 = .ok (.invokestatic 48, 3) := by decide +kernel
theorem dX5_seen_4 : decode cX5_seen 4 = .ok (.ifCond .ne 5, 3) := by decide +kernel
theorem dX5_seen_7 : decode cX5_seen 7 = .ok (.iconst (-1), 1) := by decide +kernel
theorem dX5_seen_8 : decode cX5_seen 8 = .ok (.ireturn, 1) := by decide +kernel
theorem dX5_seen_9 : decode cX5_seen 9 = .ok (.iload_n 2, 1) := by decide +kernel
theorem dX5_seen_10 : decode cX5_seen 10 = .ok (.ifCond .lt 8, 3) := by decide +kernel
theorem dX5_seen_13 : decode cX5_seen 13 = .ok (.iload_n 2, 1) := by decide +kernel
theorem dX5_seen_14 : decode cX5_seen 14 = .ok (.iconst 4, 1) := by decide +kernel
theorem dX5_seen_15 : decode cX5_seen 15 = .ok (.if_icmp .le 6, 3) := by decide +kernel
theorem dX5_seen_18 : decode cX5_seen 18 = .ok (.bipush (-2), 2) := by decide +kernel
theorem dX5_seen_20 : decode cX5_seen 20 = .ok (.ireturn, 1) := by decide +kernel
theorem dX5_seen_21 : decode cX5_seen 21 = .ok (.aload_n 0, 1) := by decide +kernel
theorem dX5_seen_22 : decode cX5_seen 22 = .ok (.getfield 12, 3) := by decide +kernel
theorem dX5_seen_25 : decode cX5_seen 25 = .ok (.getfield 51, 3) := by decide +kernel
theorem dX5_seen_28 : decode cX5_seen 28 = .ok (.getfield 54, 3) := by decide +kernel
theorem dX5_seen_31 : decode cX5_seen 31 = .ok (.ifCond .ne 6, 3) := by decide +kernel
theorem dX5_seen_34 : decode cX5_seen 34 = .ok (.bipush (-4), 2) := by decide +kernel
theorem dX5_seen_36 : decode cX5_seen 36 = .ok (.ireturn, 1) := by decide +kernel
theorem dX5_seen_37 : decode cX5_seen 37 = .ok (.aload_n 0, 1) := by decide +kernel
theorem dX5_seen_38 : decode cX5_seen 38 = .ok (.getfield 12, 3) := by decide +kernel
theorem dX5_seen_41 : decode cX5_seen 41 = .ok (.getfield 51, 3) := by decide +kernel
theorem dX5_seen_44 : decode cX5_seen 44 = .ok (.iload_n 1, 1) := by decide +kernel
theorem dX5_seen_45 : decode cX5_seen 45 = .ok (.invokevirtual 249, 3) := by decide +kernel
theorem dX5_seen_48 : decode cX5_seen 48 = .ok (.ifCond .ne 6, 3) := by decide +kernel
theorem dX5_seen_51 : decode cX5_seen 51 = .ok (.bipush (-5), 2) := by decide +kernel
theorem dX5_seen_53 : decode cX5_seen 53 = .ok (.ireturn, 1) := by decide +kernel
theorem dX5_seen_54 : decode cX5_seen 54 = .ok (.iload_n 2, 1) := by decide +kernel
theorem dX5_seen_55 : decode cX5_seen 55 = .ok (.tableswitch 94 0 3 #[29, 44, 63, 82], 29) := by decide +kernel
theorem dX5_seen_84 : decode cX5_seen 84 = .ok (.aload_n 0, 1) := by decide +kernel
theorem dX5_seen_85 : decode cX5_seen 85 = .ok (.getfield 12, 3) := by decide +kernel
theorem dX5_seen_88 : decode cX5_seen 88 = .ok (.getfield 51, 3) := by decide +kernel
theorem dX5_seen_91 : decode cX5_seen 91 = .ok (.getfield 252, 3) := by decide +kernel
theorem dX5_seen_94 : decode cX5_seen 94 = .ok (.iload_n 1, 1) := by decide +kernel
theorem dX5_seen_95 : decode cX5_seen 95 = .ok (.invokestatic 117, 3) := by decide +kernel
theorem dX5_seen_98 : decode cX5_seen 98 = .ok (.ireturn, 1) := by decide +kernel
theorem dX5_seen_99 : decode cX5_seen 99 = .ok (.aload_n 0, 1) := by decide +kernel
theorem dX5_seen_100 : decode cX5_seen 100 = .ok (.getfield 12, 3) := by decide +kernel
theorem dX5_seen_103 : decode cX5_seen 103 = .ok (.getfield 51, 3) := by decide +kernel
theorem dX5_seen_106 : decode cX5_seen 106 = .ok (.aload_n 0, 1) := by decide +kernel
theorem dX5_seen_107 : decode cX5_seen 107 = .ok (.getfield 12, 3) := by decide +kernel
theorem dX5_seen_110 : decode cX5_seen 110 = .ok (.getfield 57, 3) := by decide +kernel
theorem dX5_seen_113 : decode cX5_seen 113 = .ok (.iload_n 1, 1) := by decide +kernel
theorem dX5_seen_114 : decode cX5_seen 114 = .ok (.invokevirtual 255, 3) := by decide +kernel
theorem dX5_seen_117 : decode cX5_seen 117 = .ok (.ireturn, 1) := by decide +kernel
theorem dX5_seen_118 : decode cX5_seen 118 = .ok (.aload_n 0, 1) := by decide +kernel
theorem dX5_seen_119 : decode cX5_seen 119 = .ok (.getfield 12, 3) := by decide +kernel
theorem dX5_seen_122 : decode cX5_seen 122 = .ok (.getfield 51, 3) := by decide +kernel
theorem dX5_seen_125 : decode cX5_seen 125 = .ok (.aload_n 0, 1) := by decide +kernel
theorem dX5_seen_126 : decode cX5_seen 126 = .ok (.getfield 12, 3) := by decide +kernel
theorem dX5_seen_129 : decode cX5_seen 129 = .ok (.getfield 57, 3) := by decide +kernel
theorem dX5_seen_132 : decode cX5_seen 132 = .ok (.iload_n 1, 1) := by decide +kernel
theorem dX5_seen_133 : decode cX5_seen 133 = .ok (.invokevirtual 258, 3) := by decide +kernel
theorem dX5_seen_136 : decode cX5_seen 136 = .ok (.ireturn, 1) := by decide +kernel
theorem dX5_seen_137 : decode cX5_seen 137 = .ok (.aload_n 0, 1) := by decide +kernel
theorem dX5_seen_138 : decode cX5_seen 138 = .ok (.getfield 12, 3) := by decide +kernel
theorem dX5_seen_141 : decode cX5_seen 141 = .ok (.getfield 51, 3) := by decide +kernel
theorem dX5_seen_144 : decode cX5_seen 144 = .ok (.iload_n 1, 1) := by decide +kernel
theorem dX5_seen_145 : decode cX5_seen 145 = .ok (.invokevirtual 261, 3) := by decide +kernel
theorem dX5_seen_148 : decode cX5_seen 148 = .ok (.ireturn, 1) := by decide +kernel
theorem dX5_seen_149 : decode cX5_seen 149 = .ok (.aload_n 0, 1) := by decide +kernel
theorem dX5_seen_150 : decode cX5_seen 150 = .ok (.getfield 12, 3) := by decide +kernel
theorem dX5_seen_153 : decode cX5_seen 153 = .ok (.getfield 51, 3) := by decide +kernel
theorem dX5_seen_156 : decode cX5_seen 156 = .ok (.getfield 264, 3) := by decide +kernel
theorem dX5_seen_159 : decode cX5_seen 159 = .ok (.iload_n 1, 1) := by decide +kernel
theorem dX5_seen_160 : decode cX5_seen 160 = .ok (.invokestatic 117, 3) := by decide +kernel
theorem dX5_seen_163 : decode cX5_seen 163 = .ok (.ireturn, 1) := by decide +kernel
theorem dX5_told_0 : decode cX5_told 0 = .ok (.iload_n 1, 1) := by decide +kernel
theorem dX5_told_1 : decode cX5_told 1 = .ok (.ifCond .ge 6, 3) := by decide +kernel
theorem dX5_told_4 : decode cX5_told 4 = .ok (.bipush (-2), 2) := by decide +kernel
theorem dX5_told_6 : decode cX5_told 6 = .ok (.ireturn, 1) := by decide +kernel
theorem dX5_told_7 : decode cX5_told 7 = .ok (.aload_n 0, 1) := by decide +kernel
theorem dX5_told_8 : decode cX5_told 8 = .ok (.getfield 12, 3) := by decide +kernel
theorem dX5_told_11 : decode cX5_told 11 = .ok (.getfield 51, 3) := by decide +kernel
theorem dX5_told_14 : decode cX5_told 14 = .ok (.getfield 54, 3) := by decide +kernel
theorem dX5_told_17 : decode cX5_told 17 = .ok (.ifCond .ne 6, 3) := by decide +kernel
theorem dX5_told_20 : decode cX5_told 20 = .ok (.bipush (-4), 2) := by decide +kernel
theorem dX5_told_22 : decode cX5_told 22 = .ok (.ireturn, 1) := by decide +kernel
theorem dX5_told_23 : decode cX5_told 23 = .ok (.iload_n 1, 1) := by decide +kernel
theorem dX5_told_24 : decode cX5_told 24 = .ok (.aload_n 0, 1) := by decide +kernel
theorem dX5_told_25 : decode cX5_told 25 = .ok (.getfield 12, 3) := by decide +kernel
theorem dX5_told_28 : decode cX5_told 28 = .ok (.getfield 51, 3) := by decide +kernel
theorem dX5_told_31 : decode cX5_told 31 = .ok (.aload_n 0, 1) := by decide +kernel
theorem dX5_told_32 : decode cX5_told 32 = .ok (.getfield 12, 3) := by decide +kernel
theorem dX5_told_35 : decode cX5_told 35 = .ok (.getfield 57, 3) := by decide +kernel
theorem dX5_told_38 : decode cX5_told 38 = .ok (.invokevirtual 157, 3) := by decide +kernel
theorem dX5_told_41 : decode cX5_told 41 = .ok (.if_icmp .ge 20, 3) := by decide +kernel
theorem dX5_told_44 : decode cX5_told 44 = .ok (.aload_n 0, 1) := by decide +kernel
theorem dX5_told_45 : decode cX5_told 45 = .ok (.getfield 12, 3) := by decide +kernel
theorem dX5_told_48 : decode cX5_told 48 = .ok (.getfield 51, 3) := by decide +kernel
theorem dX5_told_51 : decode cX5_told 51 = .ok (.getfield 267, 3) := by decide +kernel
theorem dX5_told_54 : decode cX5_told 54 = .ok (.iload_n 1, 1) := by decide +kernel
theorem dX5_told_55 : decode cX5_told 55 = .ok (.invokestatic 117, 3) := by decide +kernel
theorem dX5_told_58 : decode cX5_told 58 = .ok (.goto 5, 3) := by decide +kernel
theorem dX5_told_61 : decode cX5_told 61 = .ok (.bipush (-5), 2) := by decide +kernel
theorem dX5_told_63 : decode cX5_told 63 = .ok (.ireturn, 1) := by decide +kernel
theorem dX5_reading_0 : decode cX5_reading 0 = .ok (.iload_n 1, 1) := by decide +kernel
theorem dX5_reading_1 : decode cX5_reading 1 = .ok (.ifCond .lt 9, 3) := by decide +kernel
theorem dX5_reading_4 : decode cX5_reading 4 = .ok (.iload_n 1, 1) := by decide +kernel
theorem dX5_reading_5 : decode cX5_reading 5 = .ok (.bipush 12, 2) := by decide +kernel
theorem dX5_reading_7 : decode cX5_reading 7 = .ok (.if_icmp .le 6, 3) := by decide +kernel
theorem dX5_reading_10 : decode cX5_reading 10 = .ok (.bipush (-2), 2) := by decide +kernel
theorem dX5_reading_12 : decode cX5_reading 12 = .ok (.ireturn, 1) := by decide +kernel
theorem dX5_reading_13 : decode cX5_reading 13 = .ok (.aload_n 0, 1) := by decide +kernel
theorem dX5_reading_14 : decode cX5_reading 14 = .ok (.getfield 12, 3) := by decide +kernel
theorem dX5_reading_17 : decode cX5_reading 17 = .ok (.getfield 51, 3) := by decide +kernel
theorem dX5_reading_20 : decode cX5_reading 20 = .ok (.getfield 54, 3) := by decide +kernel
theorem dX5_reading_23 : decode cX5_reading 23 = .ok (.ifCond .ne 6, 3) := by decide +kernel
theorem dX5_reading_26 : decode cX5_reading 26 = .ok (.bipush (-4), 2) := by decide +kernel
theorem dX5_reading_28 : decode cX5_reading 28 = .ok (.ireturn, 1) := by decide +kernel
theorem dX5_reading_29 : decode cX5_reading 29 = .ok (.iload_n 1, 1) := by decide +kernel
theorem dX5_reading_30 : decode cX5_reading 30 = .ok (.tableswitch 264 0 11 #[62, 73, 84, 95, 106, 117, 135, 156, 199, 217, 235, 246], 62) := by decide +kernel
theorem dX5_reading_92 : decode cX5_reading 92 = .ok (.aload_n 0, 1) := by decide +kernel
theorem dX5_reading_93 : decode cX5_reading 93 = .ok (.getfield 12, 3) := by decide +kernel
theorem dX5_reading_96 : decode cX5_reading 96 = .ok (.getfield 51, 3) := by decide +kernel
theorem dX5_reading_99 : decode cX5_reading 99 = .ok (.getfield 270, 3) := by decide +kernel
theorem dX5_reading_102 : decode cX5_reading 102 = .ok (.ireturn, 1) := by decide +kernel
theorem dX5_reading_103 : decode cX5_reading 103 = .ok (.aload_n 0, 1) := by decide +kernel
theorem dX5_reading_104 : decode cX5_reading 104 = .ok (.getfield 12, 3) := by decide +kernel
theorem dX5_reading_107 : decode cX5_reading 107 = .ok (.getfield 51, 3) := by decide +kernel
theorem dX5_reading_110 : decode cX5_reading 110 = .ok (.getfield 273, 3) := by decide +kernel
theorem dX5_reading_113 : decode cX5_reading 113 = .ok (.ireturn, 1) := by decide +kernel
theorem dX5_reading_114 : decode cX5_reading 114 = .ok (.aload_n 0, 1) := by decide +kernel
theorem dX5_reading_115 : decode cX5_reading 115 = .ok (.getfield 12, 3) := by decide +kernel
theorem dX5_reading_118 : decode cX5_reading 118 = .ok (.getfield 51, 3) := by decide +kernel
theorem dX5_reading_121 : decode cX5_reading 121 = .ok (.invokevirtual 276, 3) := by decide +kernel
theorem dX5_reading_124 : decode cX5_reading 124 = .ok (.ireturn, 1) := by decide +kernel
theorem dX5_reading_125 : decode cX5_reading 125 = .ok (.aload_n 0, 1) := by decide +kernel
theorem dX5_reading_126 : decode cX5_reading 126 = .ok (.getfield 12, 3) := by decide +kernel
theorem dX5_reading_129 : decode cX5_reading 129 = .ok (.getfield 51, 3) := by decide +kernel
theorem dX5_reading_132 : decode cX5_reading 132 = .ok (.invokevirtual 279, 3) := by decide +kernel
theorem dX5_reading_135 : decode cX5_reading 135 = .ok (.ireturn, 1) := by decide +kernel
theorem dX5_reading_136 : decode cX5_reading 136 = .ok (.aload_n 0, 1) := by decide +kernel
theorem dX5_reading_137 : decode cX5_reading 137 = .ok (.getfield 12, 3) := by decide +kernel
theorem dX5_reading_140 : decode cX5_reading 140 = .ok (.getfield 51, 3) := by decide +kernel
theorem dX5_reading_143 : decode cX5_reading 143 = .ok (.getfield 282, 3) := by decide +kernel
theorem dX5_reading_146 : decode cX5_reading 146 = .ok (.ireturn, 1) := by decide +kernel
theorem dX5_reading_147 : decode cX5_reading 147 = .ok (.aload_n 0, 1) := by decide +kernel
theorem dX5_reading_148 : decode cX5_reading 148 = .ok (.getfield 12, 3) := by decide +kernel
theorem dX5_reading_151 : decode cX5_reading 151 = .ok (.getfield 51, 3) := by decide +kernel
theorem dX5_reading_154 : decode cX5_reading 154 = .ok (.aload_n 0, 1) := by decide +kernel
theorem dX5_reading_155 : decode cX5_reading 155 = .ok (.getfield 12, 3) := by decide +kernel
theorem dX5_reading_158 : decode cX5_reading 158 = .ok (.getfield 57, 3) := by decide +kernel
theorem dX5_reading_161 : decode cX5_reading 161 = .ok (.invokevirtual 157, 3) := by decide +kernel
theorem dX5_reading_164 : decode cX5_reading 164 = .ok (.ireturn, 1) := by decide +kernel
theorem dX5_reading_165 : decode cX5_reading 165 = .ok (.aload_n 0, 1) := by decide +kernel
theorem dX5_reading_166 : decode cX5_reading 166 = .ok (.getfield 12, 3) := by decide +kernel
theorem dX5_reading_169 : decode cX5_reading 169 = .ok (.getfield 51, 3) := by decide +kernel
theorem dX5_reading_172 : decode cX5_reading 172 = .ok (.aload_n 0, 1) := by decide +kernel
theorem dX5_reading_173 : decode cX5_reading 173 = .ok (.getfield 12, 3) := by decide +kernel
theorem dX5_reading_176 : decode cX5_reading 176 = .ok (.getfield 57, 3) := by decide +kernel
theorem dX5_reading_179 : decode cX5_reading 179 = .ok (.invokevirtual 139, 3) := by decide +kernel
theorem dX5_reading_182 : decode cX5_reading 182 = .ok (.invokestatic 143, 3) := by decide +kernel
theorem dX5_reading_185 : decode cX5_reading 185 = .ok (.ireturn, 1) := by decide +kernel
theorem dX5_reading_186 : decode cX5_reading 186 = .ok (.aload_n 0, 1) := by decide +kernel
theorem dX5_reading_187 : decode cX5_reading 187 = .ok (.getfield 12, 3) := by decide +kernel
theorem dX5_reading_190 : decode cX5_reading 190 = .ok (.getfield 51, 3) := by decide +kernel
theorem dX5_reading_193 : decode cX5_reading 193 = .ok (.aload_n 0, 1) := by decide +kernel
theorem dX5_reading_194 : decode cX5_reading 194 = .ok (.getfield 12, 3) := by decide +kernel
theorem dX5_reading_197 : decode cX5_reading 197 = .ok (.getfield 57, 3) := by decide +kernel
theorem dX5_reading_200 : decode cX5_reading 200 = .ok (.invokevirtual 139, 3) := by decide +kernel
theorem dX5_reading_203 : decode cX5_reading 203 = .ok (.ifCond .eq 8, 3) := by decide +kernel
theorem dX5_reading_206 : decode cX5_reading 206 = .ok (.bipush (-5), 2) := by decide +kernel
theorem dX5_reading_208 : decode cX5_reading 208 = .ok (.goto 20, 3) := by decide +kernel
theorem dX5_reading_211 : decode cX5_reading 211 = .ok (.aload_n 0, 1) := by decide +kernel
theorem dX5_reading_212 : decode cX5_reading 212 = .ok (.getfield 12, 3) := by decide +kernel
theorem dX5_reading_215 : decode cX5_reading 215 = .ok (.getfield 51, 3) := by decide +kernel
theorem dX5_reading_218 : decode cX5_reading 218 = .ok (.aload_n 0, 1) := by decide +kernel
theorem dX5_reading_219 : decode cX5_reading 219 = .ok (.getfield 12, 3) := by decide +kernel
theorem dX5_reading_222 : decode cX5_reading 222 = .ok (.getfield 57, 3) := by decide +kernel
theorem dX5_reading_225 : decode cX5_reading 225 = .ok (.invokevirtual 285, 3) := by decide +kernel
theorem dX5_reading_228 : decode cX5_reading 228 = .ok (.ireturn, 1) := by decide +kernel
theorem dX5_reading_229 : decode cX5_reading 229 = .ok (.aload_n 0, 1) := by decide +kernel
theorem dX5_reading_230 : decode cX5_reading 230 = .ok (.getfield 12, 3) := by decide +kernel
theorem dX5_reading_233 : decode cX5_reading 233 = .ok (.getfield 51, 3) := by decide +kernel
theorem dX5_reading_236 : decode cX5_reading 236 = .ok (.aload_n 0, 1) := by decide +kernel
theorem dX5_reading_237 : decode cX5_reading 237 = .ok (.getfield 12, 3) := by decide +kernel
theorem dX5_reading_240 : decode cX5_reading 240 = .ok (.getfield 57, 3) := by decide +kernel
theorem dX5_reading_243 : decode cX5_reading 243 = .ok (.invokevirtual 288, 3) := by decide +kernel
theorem dX5_reading_246 : decode cX5_reading 246 = .ok (.ireturn, 1) := by decide +kernel
theorem dX5_reading_247 : decode cX5_reading 247 = .ok (.aload_n 0, 1) := by decide +kernel
theorem dX5_reading_248 : decode cX5_reading 248 = .ok (.getfield 12, 3) := by decide +kernel
theorem dX5_reading_251 : decode cX5_reading 251 = .ok (.getfield 51, 3) := by decide +kernel
theorem dX5_reading_254 : decode cX5_reading 254 = .ok (.aload_n 0, 1) := by decide +kernel
theorem dX5_reading_255 : decode cX5_reading 255 = .ok (.getfield 12, 3) := by decide +kernel
theorem dX5_reading_258 : decode cX5_reading 258 = .ok (.getfield 57, 3) := by decide +kernel
theorem dX5_reading_261 : decode cX5_reading 261 = .ok (.invokevirtual 291, 3) := by decide +kernel
theorem dX5_reading_264 : decode cX5_reading 264 = .ok (.ireturn, 1) := by decide +kernel
theorem dX5_reading_265 : decode cX5_reading 265 = .ok (.aload_n 0, 1) := by decide +kernel
theorem dX5_reading_266 : decode cX5_reading 266 = .ok (.getfield 12, 3) := by decide +kernel
theorem dX5_reading_269 : decode cX5_reading 269 = .ok (.getfield 51, 3) := by decide +kernel
theorem dX5_reading_272 : decode cX5_reading 272 = .ok (.invokevirtual 147, 3) := by decide +kernel
theorem dX5_reading_275 : decode cX5_reading 275 = .ok (.ireturn, 1) := by decide +kernel
theorem dX5_reading_276 : decode cX5_reading 276 = .ok (.aload_n 0, 1) := by decide +kernel
theorem dX5_reading_277 : decode cX5_reading 277 = .ok (.getfield 12, 3) := by decide +kernel
theorem dX5_reading_280 : decode cX5_reading 280 = .ok (.getfield 51, 3) := by decide +kernel
theorem dX5_reading_283 : decode cX5_reading 283 = .ok (.aload_n 0, 1) := by decide +kernel
theorem dX5_reading_284 : decode cX5_reading 284 = .ok (.getfield 12, 3) := by decide +kernel
theorem dX5_reading_287 : decode cX5_reading 287 = .ok (.getfield 57, 3) := by decide +kernel
theorem dX5_reading_290 : decode cX5_reading 290 = .ok (.invokevirtual 294, 3) := by decide +kernel
theorem dX5_reading_293 : decode cX5_reading 293 = .ok (.ireturn, 1) := by decide +kernel
theorem dX5_reading_294 : decode cX5_reading 294 = .ok (.aload_n 0, 1) := by decide +kernel
theorem dX5_reading_295 : decode cX5_reading 295 = .ok (.getfield 12, 3) := by decide +kernel
theorem dX5_reading_298 : decode cX5_reading 298 = .ok (.getfield 51, 3) := by decide +kernel
theorem dX5_reading_301 : decode cX5_reading 301 = .ok (.aload_n 0, 1) := by decide +kernel
theorem dX5_reading_302 : decode cX5_reading 302 = .ok (.getfield 12, 3) := by decide +kernel
theorem dX5_reading_305 : decode cX5_reading 305 = .ok (.getfield 57, 3) := by decide +kernel
theorem dX5_reading_308 : decode cX5_reading 308 = .ok (.invokevirtual 297, 3) := by decide +kernel
theorem dX5_reading_311 : decode cX5_reading 311 = .ok (.ireturn, 1) := by decide +kernel
theorem dX5_trial_0 : decode cX5_trial 0 = .ok (.iload_n 1, 1) := by decide +kernel
theorem dX5_trial_1 : decode cX5_trial 1 = .ok (.invokestatic 125, 3) := by decide +kernel
theorem dX5_trial_4 : decode cX5_trial 4 = .ok (.ifCond .eq 12, 3) := by decide +kernel
theorem dX5_trial_7 : decode cX5_trial 7 = .ok (.iload_n 3, 1) := by decide +kernel
theorem dX5_trial_8 : decode cX5_trial 8 = .ok (.ifCond .lt 8, 3) := by decide +kernel
theorem dX5_trial_11 : decode cX5_trial 11 = .ok (.iload_n 3, 1) := by decide +kernel
theorem dX5_trial_12 : decode cX5_trial 12 = .ok (.iconst 3, 1) := by decide +kernel
theorem dX5_trial_13 : decode cX5_trial 13 = .ok (.if_icmp .le 6, 3) := by decide +kernel
theorem dX5_trial_16 : decode cX5_trial 16 = .ok (.bipush (-2), 2) := by decide +kernel
theorem dX5_trial_18 : decode cX5_trial 18 = .ok (.ireturn, 1) := by decide +kernel
theorem dX5_trial_19 : decode cX5_trial 19 = .ok (.aload_n 0, 1) := by decide +kernel
theorem dX5_trial_20 : decode cX5_trial 20 = .ok (.getfield 12, 3) := by decide +kernel
theorem dX5_trial_23 : decode cX5_trial 23 = .ok (.getfield 57, 3) := by decide +kernel
theorem dX5_trial_26 : decode cX5_trial 26 = .ok (.invokevirtual 128, 3) := by decide +kernel
theorem dX5_trial_29 : decode cX5_trial 29 = .ok (.ifCond .ne 6, 3) := by decide +kernel
theorem dX5_trial_32 : decode cX5_trial 32 = .ok (.bipush (-4), 2) := by decide +kernel
theorem dX5_trial_34 : decode cX5_trial 34 = .ok (.ireturn, 1) := by decide +kernel
theorem dX5_trial_35 : decode cX5_trial 35 = .ok (.aload_n 0, 1) := by decide +kernel
theorem dX5_trial_36 : decode cX5_trial 36 = .ok (.getfield 40, 3) := by decide +kernel
theorem dX5_trial_39 : decode cX5_trial 39 = .ok (.aload_n 0, 1) := by decide +kernel
theorem dX5_trial_40 : decode cX5_trial 40 = .ok (.getfield 12, 3) := by decide +kernel
theorem dX5_trial_43 : decode cX5_trial 43 = .ok (.getfield 57, 3) := by decide +kernel
theorem dX5_trial_46 : decode cX5_trial 46 = .ok (.iload_n 1, 1) := by decide +kernel
theorem dX5_trial_47 : decode cX5_trial 47 = .ok (.iload_n 2, 1) := by decide +kernel
theorem dX5_trial_48 : decode cX5_trial 48 = .ok (.invokevirtual 135, 3) := by decide +kernel
theorem dX5_trial_51 : decode cX5_trial 51 = .ok (.aload_n 0, 1) := by decide +kernel
theorem dX5_trial_52 : decode cX5_trial 52 = .ok (.getfield 40, 3) := by decide +kernel
theorem dX5_trial_55 : decode cX5_trial 55 = .ok (.aload_n 0, 1) := by decide +kernel
theorem dX5_trial_56 : decode cX5_trial 56 = .ok (.getfield 12, 3) := by decide +kernel
theorem dX5_trial_59 : decode cX5_trial 59 = .ok (.getfield 57, 3) := by decide +kernel
theorem dX5_trial_62 : decode cX5_trial 62 = .ok (.sipush 240, 3) := by decide +kernel
theorem dX5_trial_65 : decode cX5_trial 65 = .ok (.invokevirtual 150, 3) := by decide +kernel
theorem dX5_trial_68 : decode cX5_trial 68 = .ok (.pop, 1) := by decide +kernel
theorem dX5_trial_69 : decode cX5_trial 69 = .ok (.iload_n 3, 1) := by decide +kernel
theorem dX5_trial_70 : decode cX5_trial 70 = .ok (.tableswitch 57 0 2 #[26, 34, 42], 26) := by decide +kernel
theorem dX5_trial_96 : decode cX5_trial 96 = .ok (.aload_n 0, 1) := by decide +kernel
theorem dX5_trial_97 : decode cX5_trial 97 = .ok (.getfield 40, 3) := by decide +kernel
theorem dX5_trial_100 : decode cX5_trial 100 = .ok (.getfield 270, 3) := by decide +kernel
theorem dX5_trial_103 : decode cX5_trial 103 = .ok (.ireturn, 1) := by decide +kernel
theorem dX5_trial_104 : decode cX5_trial 104 = .ok (.aload_n 0, 1) := by decide +kernel
theorem dX5_trial_105 : decode cX5_trial 105 = .ok (.getfield 40, 3) := by decide +kernel
theorem dX5_trial_108 : decode cX5_trial 108 = .ok (.invokevirtual 279, 3) := by decide +kernel
theorem dX5_trial_111 : decode cX5_trial 111 = .ok (.ireturn, 1) := by decide +kernel
theorem dX5_trial_112 : decode cX5_trial 112 = .ok (.aload_n 0, 1) := by decide +kernel
theorem dX5_trial_113 : decode cX5_trial 113 = .ok (.getfield 40, 3) := by decide +kernel
theorem dX5_trial_116 : decode cX5_trial 116 = .ok (.aload_n 0, 1) := by decide +kernel
theorem dX5_trial_117 : decode cX5_trial 117 = .ok (.getfield 12, 3) := by decide +kernel
theorem dX5_trial_120 : decode cX5_trial 120 = .ok (.getfield 57, 3) := by decide +kernel
theorem dX5_trial_123 : decode cX5_trial 123 = .ok (.invokevirtual 294, 3) := by decide +kernel
theorem dX5_trial_126 : decode cX5_trial 126 = .ok (.ireturn, 1) := by decide +kernel
theorem dX5_trial_127 : decode cX5_trial 127 = .ok (.aload_n 0, 1) := by decide +kernel
theorem dX5_trial_128 : decode cX5_trial 128 = .ok (.getfield 40, 3) := by decide +kernel
theorem dX5_trial_131 : decode cX5_trial 131 = .ok (.invokevirtual 147, 3) := by decide +kernel
theorem dX5_trial_134 : decode cX5_trial 134 = .ok (.ireturn, 1) := by decide +kernel
theorem dX5_cheapest_0 : decode cX5_cheapest 0 = .ok (.aload_n 0, 1) := by decide +kernel
theorem dX5_cheapest_1 : decode cX5_cheapest 1 = .ok (.getfield 12, 3) := by decide +kernel
theorem dX5_cheapest_4 : decode cX5_cheapest 4 = .ok (.getfield 57, 3) := by decide +kernel
theorem dX5_cheapest_7 : decode cX5_cheapest 7 = .ok (.invokevirtual 128, 3) := by decide +kernel
theorem dX5_cheapest_10 : decode cX5_cheapest 10 = .ok (.ifCond .ne 6, 3) := by decide +kernel
theorem dX5_cheapest_13 : decode cX5_cheapest 13 = .ok (.bipush (-4), 2) := by decide +kernel
theorem dX5_cheapest_15 : decode cX5_cheapest 15 = .ok (.ireturn, 1) := by decide +kernel
theorem dX5_cheapest_16 : decode cX5_cheapest 16 = .ok (.iconst 0, 1) := by decide +kernel
theorem dX5_cheapest_17 : decode cX5_cheapest 17 = .ok (.istore_n 1, 1) := by decide +kernel
theorem dX5_cheapest_18 : decode cX5_cheapest 18 = .ok (.iconst 0, 1) := by decide +kernel
theorem dX5_cheapest_19 : decode cX5_cheapest 19 = .ok (.istore_n 2, 1) := by decide +kernel
theorem dX5_cheapest_20 : decode cX5_cheapest 20 = .ok (.iconst 0, 1) := by decide +kernel
theorem dX5_cheapest_21 : decode cX5_cheapest 21 = .ok (.istore_n 3, 1) := by decide +kernel
theorem dX5_cheapest_22 : decode cX5_cheapest 22 = .ok (.iload_n 3, 1) := by decide +kernel
theorem dX5_cheapest_23 : decode cX5_cheapest 23 = .ok (.bipush 6, 2) := by decide +kernel
theorem dX5_cheapest_25 : decode cX5_cheapest 25 = .ok (.if_icmp .ge 80, 3) := by decide +kernel
theorem dX5_cheapest_28 : decode cX5_cheapest 28 = .ok (.aload_n 0, 1) := by decide +kernel
theorem dX5_cheapest_29 : decode cX5_cheapest 29 = .ok (.getfield 40, 3) := by decide +kernel
theorem dX5_cheapest_32 : decode cX5_cheapest 32 = .ok (.aload_n 0, 1) := by decide +kernel
theorem dX5_cheapest_33 : decode cX5_cheapest 33 = .ok (.getfield 12, 3) := by decide +kernel
theorem dX5_cheapest_36 : decode cX5_cheapest 36 = .ok (.getfield 57, 3) := by decide +kernel
theorem dX5_cheapest_39 : decode cX5_cheapest 39 = .ok (.iload_n 3, 1) := by decide +kernel
theorem dX5_cheapest_40 : decode cX5_cheapest 40 = .ok (.iconst 1, 1) := by decide +kernel
theorem dX5_cheapest_41 : decode cX5_cheapest 41 = .ok (.ishr, 1) := by decide +kernel
theorem dX5_cheapest_42 : decode cX5_cheapest 42 = .ok (.iload_n 3, 1) := by decide +kernel
theorem dX5_cheapest_43 : decode cX5_cheapest 43 = .ok (.iconst 1, 1) := by decide +kernel
theorem dX5_cheapest_44 : decode cX5_cheapest 44 = .ok (.iand, 1) := by decide +kernel
theorem dX5_cheapest_45 : decode cX5_cheapest 45 = .ok (.iconst 1, 1) := by decide +kernel
theorem dX5_cheapest_46 : decode cX5_cheapest 46 = .ok (.if_icmp .ne 7, 3) := by decide +kernel
theorem dX5_cheapest_49 : decode cX5_cheapest 49 = .ok (.iconst 1, 1) := by decide +kernel
theorem dX5_cheapest_50 : decode cX5_cheapest 50 = .ok (.goto 4, 3) := by decide +kernel
theorem dX5_cheapest_53 : decode cX5_cheapest 53 = .ok (.iconst 0, 1) := by decide +kernel
theorem dX5_cheapest_54 : decode cX5_cheapest 54 = .ok (.invokevirtual 135, 3) := by decide +kernel
theorem dX5_cheapest_57 : decode cX5_cheapest 57 = .ok (.aload_n 0, 1) := by decide +kernel
theorem dX5_cheapest_58 : decode cX5_cheapest 58 = .ok (.getfield 40, 3) := by decide +kernel
theorem dX5_cheapest_61 : decode cX5_cheapest 61 = .ok (.aload_n 0, 1) := by decide +kernel
theorem dX5_cheapest_62 : decode cX5_cheapest 62 = .ok (.getfield 12, 3) := by decide +kernel
theorem dX5_cheapest_65 : decode cX5_cheapest 65 = .ok (.getfield 57, 3) := by decide +kernel
theorem dX5_cheapest_68 : decode cX5_cheapest 68 = .ok (.sipush 240, 3) := by decide +kernel
theorem dX5_cheapest_71 : decode cX5_cheapest 71 = .ok (.invokevirtual 150, 3) := by decide +kernel
theorem dX5_cheapest_74 : decode cX5_cheapest 74 = .ok (.pop, 1) := by decide +kernel
theorem dX5_cheapest_75 : decode cX5_cheapest 75 = .ok (.aload_n 0, 1) := by decide +kernel
theorem dX5_cheapest_76 : decode cX5_cheapest 76 = .ok (.getfield 40, 3) := by decide +kernel
theorem dX5_cheapest_79 : decode cX5_cheapest 79 = .ok (.invokevirtual 279, 3) := by decide +kernel
theorem dX5_cheapest_82 : decode cX5_cheapest 82 = .ok (.istore 4, 2) := by decide +kernel
theorem dX5_cheapest_84 : decode cX5_cheapest 84 = .ok (.iload_n 3, 1) := by decide +kernel
theorem dX5_cheapest_85 : decode cX5_cheapest 85 = .ok (.ifCond .eq 9, 3) := by decide +kernel
theorem dX5_cheapest_88 : decode cX5_cheapest 88 = .ok (.iload 4, 2) := by decide +kernel
theorem dX5_cheapest_90 : decode cX5_cheapest 90 = .ok (.iload_n 2, 1) := by decide +kernel
theorem dX5_cheapest_91 : decode cX5_cheapest 91 = .ok (.if_icmp .ge 8, 3) := by decide +kernel
theorem dX5_cheapest_94 : decode cX5_cheapest 94 = .ok (.iload_n 3, 1) := by decide +kernel
theorem dX5_cheapest_95 : decode cX5_cheapest 95 = .ok (.istore_n 1, 1) := by decide +kernel
theorem dX5_cheapest_96 : decode cX5_cheapest 96 = .ok (.iload 4, 2) := by decide +kernel
theorem dX5_cheapest_98 : decode cX5_cheapest 98 = .ok (.istore_n 2, 1) := by decide +kernel
theorem dX5_cheapest_99 : decode cX5_cheapest 99 = .ok (.iinc 3 1, 3) := by decide +kernel
theorem dX5_cheapest_102 : decode cX5_cheapest 102 = .ok (.goto (-80), 3) := by decide +kernel
theorem dX5_cheapest_105 : decode cX5_cheapest 105 = .ok (.iload_n 1, 1) := by decide +kernel
theorem dX5_cheapest_106 : decode cX5_cheapest 106 = .ok (.ireturn, 1) := by decide +kernel
theorem dX5_count_0 : decode cX5_count 0 = .ok (.iload_n 1, 1) := by decide +kernel
theorem dX5_count_1 : decode cX5_count 1 = .ok (.tableswitch 159 0 9 #[55, 66, 77, 88, 102, 113, 127, 135, 143, 151], 55) := by decide +kernel
theorem dX5_count_56 : decode cX5_count 56 = .ok (.aload_n 0, 1) := by decide +kernel
theorem dX5_count_57 : decode cX5_count 57 = .ok (.getfield 12, 3) := by decide +kernel
theorem dX5_count_60 : decode cX5_count 60 = .ok (.getfield 57, 3) := by decide +kernel
theorem dX5_count_63 : decode cX5_count 63 = .ok (.invokevirtual 207, 3) := by decide +kernel
theorem dX5_count_66 : decode cX5_count 66 = .ok (.ireturn, 1) := by decide +kernel
theorem dX5_count_67 : decode cX5_count 67 = .ok (.aload_n 0, 1) := by decide +kernel
theorem dX5_count_68 : decode cX5_count 68 = .ok (.getfield 12, 3) := by decide +kernel
theorem dX5_count_71 : decode cX5_count 71 = .ok (.getfield 57, 3) := by decide +kernel
theorem dX5_count_74 : decode cX5_count 74 = .ok (.invokevirtual 128, 3) := by decide +kernel
theorem dX5_count_77 : decode cX5_count 77 = .ok (.ireturn, 1) := by decide +kernel
theorem dX5_count_78 : decode cX5_count 78 = .ok (.aload_n 0, 1) := by decide +kernel
theorem dX5_count_79 : decode cX5_count 79 = .ok (.getfield 12, 3) := by decide +kernel
theorem dX5_count_82 : decode cX5_count 82 = .ok (.getfield 57, 3) := by decide +kernel
theorem dX5_count_85 : decode cX5_count 85 = .ok (.getfield 110, 3) := by decide +kernel
theorem dX5_count_88 : decode cX5_count 88 = .ok (.ireturn, 1) := by decide +kernel
theorem dX5_count_89 : decode cX5_count 89 = .ok (.aload_n 0, 1) := by decide +kernel
theorem dX5_count_90 : decode cX5_count 90 = .ok (.getfield 12, 3) := by decide +kernel
theorem dX5_count_93 : decode cX5_count 93 = .ok (.getfield 57, 3) := by decide +kernel
theorem dX5_count_96 : decode cX5_count 96 = .ok (.getfield 90, 3) := by decide +kernel
theorem dX5_count_99 : decode cX5_count 99 = .ok (.invokestatic 300, 3) := by decide +kernel
theorem dX5_count_102 : decode cX5_count 102 = .ok (.ireturn, 1) := by decide +kernel
theorem dX5_count_103 : decode cX5_count 103 = .ok (.aload_n 0, 1) := by decide +kernel
theorem dX5_count_104 : decode cX5_count 104 = .ok (.getfield 12, 3) := by decide +kernel
theorem dX5_count_107 : decode cX5_count 107 = .ok (.getfield 57, 3) := by decide +kernel
theorem dX5_count_110 : decode cX5_count 110 = .ok (.invokevirtual 305, 3) := by decide +kernel
theorem dX5_count_113 : decode cX5_count 113 = .ok (.ireturn, 1) := by decide +kernel
theorem dX5_count_114 : decode cX5_count 114 = .ok (.aload_n 0, 1) := by decide +kernel
theorem dX5_count_115 : decode cX5_count 115 = .ok (.getfield 12, 3) := by decide +kernel
theorem dX5_count_118 : decode cX5_count 118 = .ok (.getfield 51, 3) := by decide +kernel
theorem dX5_count_121 : decode cX5_count 121 = .ok (.getfield 54, 3) := by decide +kernel
theorem dX5_count_124 : decode cX5_count 124 = .ok (.invokestatic 143, 3) := by decide +kernel
theorem dX5_count_127 : decode cX5_count 127 = .ok (.ireturn, 1) := by decide +kernel
theorem dX5_count_128 : decode cX5_count 128 = .ok (.aload_n 0, 1) := by decide +kernel
theorem dX5_count_129 : decode cX5_count 129 = .ok (.getfield 12, 3) := by decide +kernel
theorem dX5_count_132 : decode cX5_count 132 = .ok (.getfield 132, 3) := by decide +kernel
theorem dX5_count_135 : decode cX5_count 135 = .ok (.ireturn, 1) := by decide +kernel
theorem dX5_count_136 : decode cX5_count 136 = .ok (.aload_n 0, 1) := by decide +kernel
theorem dX5_count_137 : decode cX5_count 137 = .ok (.getfield 12, 3) := by decide +kernel
theorem dX5_count_140 : decode cX5_count 140 = .ok (.getfield 154, 3) := by decide +kernel
theorem dX5_count_143 : decode cX5_count 143 = .ok (.ireturn, 1) := by decide +kernel
theorem dX5_count_144 : decode cX5_count 144 = .ok (.aload_n 0, 1) := by decide +kernel
theorem dX5_count_145 : decode cX5_count 145 = .ok (.getfield 19, 3) := by decide +kernel
theorem dX5_count_148 : decode cX5_count 148 = .ok (.getfield 198, 3) := by decide +kernel
theorem dX5_count_151 : decode cX5_count 151 = .ok (.ireturn, 1) := by decide +kernel
theorem dX5_count_152 : decode cX5_count 152 = .ok (.aload_n 0, 1) := by decide +kernel
theorem dX5_count_153 : decode cX5_count 153 = .ok (.getfield 33, 3) := by decide +kernel
theorem dX5_count_156 : decode cX5_count 156 = .ok (.getfield 161, 3) := by decide +kernel
theorem dX5_count_159 : decode cX5_count 159 = .ok (.ireturn, 1) := by decide +kernel
theorem dX5_count_160 : decode cX5_count 160 = .ok (.bipush (-2), 2) := by decide +kernel
theorem dX5_count_162 : decode cX5_count 162 = .ok (.ireturn, 1) := by decide +kernel
theorem dX5_isList_0 : decode cX5_isList 0 = .ok (.iload_n 0, 1) := by decide +kernel
theorem dX5_isList_1 : decode cX5_isList 1 = .ok (.ifCond .lt 13, 3) := by decide +kernel
theorem dX5_isList_4 : decode cX5_isList 4 = .ok (.iload_n 0, 1) := by decide +kernel
theorem dX5_isList_5 : decode cX5_isList 5 = .ok (.bipush 6, 2) := by decide +kernel
theorem dX5_isList_7 : decode cX5_isList 7 = .ok (.if_icmp .ge 7, 3) := by decide +kernel
theorem dX5_isList_10 : decode cX5_isList 10 = .ok (.iconst 1, 1) := by decide +kernel
theorem dX5_isList_11 : decode cX5_isList 11 = .ok (.goto 4, 3) := by decide +kernel
theorem dX5_isList_14 : decode cX5_isList 14 = .ok (.iconst 0, 1) := by decide +kernel
theorem dX5_isList_15 : decode cX5_isList 15 = .ok (.ireturn, 1) := by decide +kernel
theorem dX5_isDocument_0 : decode cX5_isDocument 0 = .ok (.iload_n 0, 1) := by decide +kernel
theorem dX5_isDocument_1 : decode cX5_isDocument 1 = .ok (.ifCond .lt 13, 3) := by decide +kernel
theorem dX5_isDocument_4 : decode cX5_isDocument 4 = .ok (.iload_n 0, 1) := by decide +kernel
theorem dX5_isDocument_5 : decode cX5_isDocument 5 = .ok (.bipush 60, 2) := by decide +kernel
theorem dX5_isDocument_7 : decode cX5_isDocument 7 = .ok (.if_icmp .ge 7, 3) := by decide +kernel
theorem dX5_isDocument_10 : decode cX5_isDocument 10 = .ok (.iconst 1, 1) := by decide +kernel
theorem dX5_isDocument_11 : decode cX5_isDocument 11 = .ok (.goto 4, 3) := by decide +kernel
theorem dX5_isDocument_14 : decode cX5_isDocument 14 = .ok (.iconst 0, 1) := by decide +kernel
theorem dX5_isDocument_15 : decode cX5_isDocument 15 = .ok (.ireturn, 1) := by decide +kernel
theorem dX5_isWay_0 : decode cX5_isWay 0 = .ok (.iload_n 0, 1) := by decide +kernel
theorem dX5_isWay_1 : decode cX5_isWay 1 = .ok (.ifCond .lt 12, 3) := by decide +kernel
theorem dX5_isWay_4 : decode cX5_isWay 4 = .ok (.iload_n 0, 1) := by decide +kernel
theorem dX5_isWay_5 : decode cX5_isWay 5 = .ok (.iconst 2, 1) := by decide +kernel
theorem dX5_isWay_6 : decode cX5_isWay 6 = .ok (.if_icmp .gt 7, 3) := by decide +kernel
theorem dX5_isWay_9 : decode cX5_isWay 9 = .ok (.iconst 1, 1) := by decide +kernel
theorem dX5_isWay_10 : decode cX5_isWay 10 = .ok (.goto 4, 3) := by decide +kernel
theorem dX5_isWay_13 : decode cX5_isWay 13 = .ok (.iconst 0, 1) := by decide +kernel
theorem dX5_isWay_14 : decode cX5_isWay 14 = .ok (.ireturn, 1) := by decide +kernel
theorem dX5_oneIf_0 : decode cX5_oneIf 0 = .ok (.iload_n 0, 1) := by decide +kernel
theorem dX5_oneIf_1 : decode cX5_oneIf 1 = .ok (.ifCond .eq 7, 3) := by decide +kernel
theorem dX5_oneIf_4 : decode cX5_oneIf 4 = .ok (.iconst 1, 1) := by decide +kernel
theorem dX5_oneIf_5 : decode cX5_oneIf 5 = .ok (.goto 4, 3) := by decide +kernel
theorem dX5_oneIf_8 : decode cX5_oneIf 8 = .ok (.iconst 0, 1) := by decide +kernel
theorem dX5_oneIf_9 : decode cX5_oneIf 9 = .ok (.ireturn, 1) := by decide +kernel
theorem dX5_at_0 : decode cX5_at 0 = .ok (.iload_n 1, 1) := by decide +kernel
theorem dX5_at_1 : decode cX5_at 1 = .ok (.ifCond .lt 15, 3) := by decide +kernel
theorem dX5_at_4 : decode cX5_at 4 = .ok (.iload_n 1, 1) := by decide +kernel
theorem dX5_at_5 : decode cX5_at 5 = .ok (.aload_n 0, 1) := by decide +kernel
theorem dX5_at_6 : decode cX5_at 6 = .ok (.arraylength, 1) := by decide +kernel
theorem dX5_at_7 : decode cX5_at 7 = .ok (.if_icmp .ge 9, 3) := by decide +kernel
theorem dX5_at_10 : decode cX5_at 10 = .ok (.aload_n 0, 1) := by decide +kernel
theorem dX5_at_11 : decode cX5_at 11 = .ok (.iload_n 1, 1) := by decide +kernel
theorem dX5_at_12 : decode cX5_at 12 = .ok (.iaload, 1) := by decide +kernel
theorem dX5_at_13 : decode cX5_at 13 = .ok (.goto 4, 3) := by decide +kernel
theorem dX5_at_16 : decode cX5_at 16 = .ok (.iconst 0, 1) := by decide +kernel
theorem dX5_at_17 : decode cX5_at 17 = .ok (.ireturn, 1) := by decide +kernel
theorem dX5_put_0 : decode cX5_put 0 = .ok (.iload_n 1, 1) := by decide +kernel
theorem dX5_put_1 : decode cX5_put 1 = .ok (.ifCond .lt 13, 3) := by decide +kernel
theorem dX5_put_4 : decode cX5_put 4 = .ok (.iload_n 1, 1) := by decide +kernel
theorem dX5_put_5 : decode cX5_put 5 = .ok (.aload_n 0, 1) := by decide +kernel
theorem dX5_put_6 : decode cX5_put 6 = .ok (.arraylength, 1) := by decide +kernel
theorem dX5_put_7 : decode cX5_put 7 = .ok (.if_icmp .ge 7, 3) := by decide +kernel
theorem dX5_put_10 : decode cX5_put 10 = .ok (.aload_n 0, 1) := by decide +kernel
theorem dX5_put_11 : decode cX5_put 11 = .ok (.iload_n 1, 1) := by decide +kernel
theorem dX5_put_12 : decode cX5_put 12 = .ok (.iload_n 2, 1) := by decide +kernel
theorem dX5_put_13 : decode cX5_put 13 = .ok (.iastore, 1) := by decide +kernel
theorem dX5_put_14 : decode cX5_put 14 = .ok (.return_, 1) := by decide +kernel
theorem dX5_copyRow_0 : decode cX5_copyRow 0 = .ok (.aload_n 0, 1) := by decide +kernel
theorem dX5_copyRow_1 : decode cX5_copyRow 1 = .ok (.iconst 0, 1) := by decide +kernel
theorem dX5_copyRow_2 : decode cX5_copyRow 2 = .ok (.aload_n 1, 1) := by decide +kernel
theorem dX5_copyRow_3 : decode cX5_copyRow 3 = .ok (.iconst 0, 1) := by decide +kernel
theorem dX5_copyRow_4 : decode cX5_copyRow 4 = .ok (.aload_n 0, 1) := by decide +kernel
theorem dX5_copyRow_5 : decode cX5_copyRow 5 = .ok (.arraylength, 1) := by decide +kernel
theorem dX5_copyRow_6 : decode cX5_copyRow 6 = .ok (.aload_n 1, 1) := by decide +kernel
theorem dX5_copyRow_7 : decode cX5_copyRow 7 = .ok (.arraylength, 1) := by decide +kernel
theorem dX5_copyRow_8 : decode cX5_copyRow 8 = .ok (.invokestatic 308, 3) := by decide +kernel
theorem dX5_copyRow_11 : decode cX5_copyRow 11 = .ok (.invokestatic 313, 3) := by decide +kernel
theorem dX5_copyRow_14 : decode cX5_copyRow 14 = .ok (.return_, 1) := by decide +kernel
theorem dJ6_bitCount_0f7a4_0 : decode cJ6_bitCount_0f7a4 0 = .ok (.iload_n 0, 1) := by decide +kernel
theorem dJ6_bitCount_0f7a4_1 : decode cJ6_bitCount_0f7a4 1 = .ok (.iload_n 0, 1) := by decide +kernel
theorem dJ6_bitCount_0f7a4_2 : decode cJ6_bitCount_0f7a4 2 = .ok (.iconst 1, 1) := by decide +kernel
theorem dJ6_bitCount_0f7a4_3 : decode cJ6_bitCount_0f7a4 3 = .ok (.iushr, 1) := by decide +kernel
theorem dJ6_bitCount_0f7a4_4 : decode cJ6_bitCount_0f7a4 4 = .ok (.ldc_w 265, 3) := by decide +kernel
theorem dJ6_bitCount_0f7a4_7 : decode cJ6_bitCount_0f7a4 7 = .ok (.iand, 1) := by decide +kernel
theorem dJ6_bitCount_0f7a4_8 : decode cJ6_bitCount_0f7a4 8 = .ok (.isub, 1) := by decide +kernel
theorem dJ6_bitCount_0f7a4_9 : decode cJ6_bitCount_0f7a4 9 = .ok (.istore_n 0, 1) := by decide +kernel
theorem dJ6_bitCount_0f7a4_10 : decode cJ6_bitCount_0f7a4 10 = .ok (.iload_n 0, 1) := by decide +kernel
theorem dJ6_bitCount_0f7a4_11 : decode cJ6_bitCount_0f7a4 11 = .ok (.ldc_w 266, 3) := by decide +kernel
theorem dJ6_bitCount_0f7a4_14 : decode cJ6_bitCount_0f7a4 14 = .ok (.iand, 1) := by decide +kernel
theorem dJ6_bitCount_0f7a4_15 : decode cJ6_bitCount_0f7a4 15 = .ok (.iload_n 0, 1) := by decide +kernel
theorem dJ6_bitCount_0f7a4_16 : decode cJ6_bitCount_0f7a4 16 = .ok (.iconst 2, 1) := by decide +kernel
theorem dJ6_bitCount_0f7a4_17 : decode cJ6_bitCount_0f7a4 17 = .ok (.iushr, 1) := by decide +kernel
theorem dJ6_bitCount_0f7a4_18 : decode cJ6_bitCount_0f7a4 18 = .ok (.ldc_w 266, 3) := by decide +kernel
theorem dJ6_bitCount_0f7a4_21 : decode cJ6_bitCount_0f7a4 21 = .ok (.iand, 1) := by decide +kernel
theorem dJ6_bitCount_0f7a4_22 : decode cJ6_bitCount_0f7a4 22 = .ok (.iadd, 1) := by decide +kernel
theorem dJ6_bitCount_0f7a4_23 : decode cJ6_bitCount_0f7a4 23 = .ok (.istore_n 0, 1) := by decide +kernel
theorem dJ6_bitCount_0f7a4_24 : decode cJ6_bitCount_0f7a4 24 = .ok (.iload_n 0, 1) := by decide +kernel
theorem dJ6_bitCount_0f7a4_25 : decode cJ6_bitCount_0f7a4 25 = .ok (.iload_n 0, 1) := by decide +kernel
theorem dJ6_bitCount_0f7a4_26 : decode cJ6_bitCount_0f7a4 26 = .ok (.iconst 4, 1) := by decide +kernel
theorem dJ6_bitCount_0f7a4_27 : decode cJ6_bitCount_0f7a4 27 = .ok (.iushr, 1) := by decide +kernel
theorem dJ6_bitCount_0f7a4_28 : decode cJ6_bitCount_0f7a4 28 = .ok (.iadd, 1) := by decide +kernel
theorem dJ6_bitCount_0f7a4_29 : decode cJ6_bitCount_0f7a4 29 = .ok (.ldc_w 267, 3) := by decide +kernel
theorem dJ6_bitCount_0f7a4_32 : decode cJ6_bitCount_0f7a4 32 = .ok (.iand, 1) := by decide +kernel
theorem dJ6_bitCount_0f7a4_33 : decode cJ6_bitCount_0f7a4 33 = .ok (.istore_n 0, 1) := by decide +kernel
theorem dJ6_bitCount_0f7a4_34 : decode cJ6_bitCount_0f7a4 34 = .ok (.iload_n 0, 1) := by decide +kernel
theorem dJ6_bitCount_0f7a4_35 : decode cJ6_bitCount_0f7a4 35 = .ok (.iload_n 0, 1) := by decide +kernel
theorem dJ6_bitCount_0f7a4_36 : decode cJ6_bitCount_0f7a4 36 = .ok (.bipush 8, 2) := by decide +kernel
theorem dJ6_bitCount_0f7a4_38 : decode cJ6_bitCount_0f7a4 38 = .ok (.iushr, 1) := by decide +kernel
theorem dJ6_bitCount_0f7a4_39 : decode cJ6_bitCount_0f7a4 39 = .ok (.iadd, 1) := by decide +kernel
theorem dJ6_bitCount_0f7a4_40 : decode cJ6_bitCount_0f7a4 40 = .ok (.istore_n 0, 1) := by decide +kernel
theorem dJ6_bitCount_0f7a4_41 : decode cJ6_bitCount_0f7a4 41 = .ok (.iload_n 0, 1) := by decide +kernel
theorem dJ6_bitCount_0f7a4_42 : decode cJ6_bitCount_0f7a4 42 = .ok (.iload_n 0, 1) := by decide +kernel
theorem dJ6_bitCount_0f7a4_43 : decode cJ6_bitCount_0f7a4 43 = .ok (.bipush 16, 2) := by decide +kernel
theorem dJ6_bitCount_0f7a4_45 : decode cJ6_bitCount_0f7a4 45 = .ok (.iushr, 1) := by decide +kernel
theorem dJ6_bitCount_0f7a4_46 : decode cJ6_bitCount_0f7a4 46 = .ok (.iadd, 1) := by decide +kernel
theorem dJ6_bitCount_0f7a4_47 : decode cJ6_bitCount_0f7a4 47 = .ok (.istore_n 0, 1) := by decide +kernel
theorem dJ6_bitCount_0f7a4_48 : decode cJ6_bitCount_0f7a4 48 = .ok (.iload_n 0, 1) := by decide +kernel
theorem dJ6_bitCount_0f7a4_49 : decode cJ6_bitCount_0f7a4 49 = .ok (.bipush 63, 2) := by decide +kernel
theorem dJ6_bitCount_0f7a4_51 : decode cJ6_bitCount_0f7a4 51 = .ok (.iand, 1) := by decide +kernel
theorem dJ6_bitCount_0f7a4_52 : decode cJ6_bitCount_0f7a4 52 = .ok (.ireturn, 1) := by decide +kernel
theorem dJ13_bitCount_95d88_0 : decode cJ13_bitCount_95d88 0 = .ok (.lload_n 0, 1) := by decide +kernel
theorem dJ13_bitCount_95d88_1 : decode cJ13_bitCount_95d88 1 = .ok (.lload_n 0, 1) := by decide +kernel
theorem dJ13_bitCount_95d88_2 : decode cJ13_bitCount_95d88 2 = .ok (.iconst 1, 1) := by decide +kernel
theorem dJ13_bitCount_95d88_3 : decode cJ13_bitCount_95d88 3 = .ok (.lushr, 1) := by decide +kernel
theorem dJ13_bitCount_95d88_4 : decode cJ13_bitCount_95d88 4 = .ok (.ldc2_w 314, 3) := by decide +kernel
theorem dJ13_bitCount_95d88_7 : decode cJ13_bitCount_95d88 7 = .ok (.land, 1) := by decide +kernel
theorem dJ13_bitCount_95d88_8 : decode cJ13_bitCount_95d88 8 = .ok (.lsub, 1) := by decide +kernel
theorem dJ13_bitCount_95d88_9 : decode cJ13_bitCount_95d88 9 = .ok (.lstore_n 0, 1) := by decide +kernel
theorem dJ13_bitCount_95d88_10 : decode cJ13_bitCount_95d88 10 = .ok (.lload_n 0, 1) := by decide +kernel
theorem dJ13_bitCount_95d88_11 : decode cJ13_bitCount_95d88 11 = .ok (.ldc2_w 316, 3) := by decide +kernel
theorem dJ13_bitCount_95d88_14 : decode cJ13_bitCount_95d88 14 = .ok (.land, 1) := by decide +kernel
theorem dJ13_bitCount_95d88_15 : decode cJ13_bitCount_95d88 15 = .ok (.lload_n 0, 1) := by decide +kernel
theorem dJ13_bitCount_95d88_16 : decode cJ13_bitCount_95d88 16 = .ok (.iconst 2, 1) := by decide +kernel
theorem dJ13_bitCount_95d88_17 : decode cJ13_bitCount_95d88 17 = .ok (.lushr, 1) := by decide +kernel
theorem dJ13_bitCount_95d88_18 : decode cJ13_bitCount_95d88 18 = .ok (.ldc2_w 316, 3) := by decide +kernel
theorem dJ13_bitCount_95d88_21 : decode cJ13_bitCount_95d88 21 = .ok (.land, 1) := by decide +kernel
theorem dJ13_bitCount_95d88_22 : decode cJ13_bitCount_95d88 22 = .ok (.ladd, 1) := by decide +kernel
theorem dJ13_bitCount_95d88_23 : decode cJ13_bitCount_95d88 23 = .ok (.lstore_n 0, 1) := by decide +kernel
theorem dJ13_bitCount_95d88_24 : decode cJ13_bitCount_95d88 24 = .ok (.lload_n 0, 1) := by decide +kernel
theorem dJ13_bitCount_95d88_25 : decode cJ13_bitCount_95d88 25 = .ok (.lload_n 0, 1) := by decide +kernel
theorem dJ13_bitCount_95d88_26 : decode cJ13_bitCount_95d88 26 = .ok (.iconst 4, 1) := by decide +kernel
theorem dJ13_bitCount_95d88_27 : decode cJ13_bitCount_95d88 27 = .ok (.lushr, 1) := by decide +kernel
theorem dJ13_bitCount_95d88_28 : decode cJ13_bitCount_95d88 28 = .ok (.ladd, 1) := by decide +kernel
theorem dJ13_bitCount_95d88_29 : decode cJ13_bitCount_95d88 29 = .ok (.ldc2_w 318, 3) := by decide +kernel
theorem dJ13_bitCount_95d88_32 : decode cJ13_bitCount_95d88 32 = .ok (.land, 1) := by decide +kernel
theorem dJ13_bitCount_95d88_33 : decode cJ13_bitCount_95d88 33 = .ok (.lstore_n 0, 1) := by decide +kernel
theorem dJ13_bitCount_95d88_34 : decode cJ13_bitCount_95d88 34 = .ok (.lload_n 0, 1) := by decide +kernel
theorem dJ13_bitCount_95d88_35 : decode cJ13_bitCount_95d88 35 = .ok (.lload_n 0, 1) := by decide +kernel
theorem dJ13_bitCount_95d88_36 : decode cJ13_bitCount_95d88 36 = .ok (.bipush 8, 2) := by decide +kernel
theorem dJ13_bitCount_95d88_38 : decode cJ13_bitCount_95d88 38 = .ok (.lushr, 1) := by decide +kernel
theorem dJ13_bitCount_95d88_39 : decode cJ13_bitCount_95d88 39 = .ok (.ladd, 1) := by decide +kernel
theorem dJ13_bitCount_95d88_40 : decode cJ13_bitCount_95d88 40 = .ok (.lstore_n 0, 1) := by decide +kernel
theorem dJ13_bitCount_95d88_41 : decode cJ13_bitCount_95d88 41 = .ok (.lload_n 0, 1) := by decide +kernel
theorem dJ13_bitCount_95d88_42 : decode cJ13_bitCount_95d88 42 = .ok (.lload_n 0, 1) := by decide +kernel
theorem dJ13_bitCount_95d88_43 : decode cJ13_bitCount_95d88 43 = .ok (.bipush 16, 2) := by decide +kernel
theorem dJ13_bitCount_95d88_45 : decode cJ13_bitCount_95d88 45 = .ok (.lushr, 1) := by decide +kernel
theorem dJ13_bitCount_95d88_46 : decode cJ13_bitCount_95d88 46 = .ok (.ladd, 1) := by decide +kernel
theorem dJ13_bitCount_95d88_47 : decode cJ13_bitCount_95d88 47 = .ok (.lstore_n 0, 1) := by decide +kernel
theorem dJ13_bitCount_95d88_48 : decode cJ13_bitCount_95d88 48 = .ok (.lload_n 0, 1) := by decide +kernel
theorem dJ13_bitCount_95d88_49 : decode cJ13_bitCount_95d88 49 = .ok (.lload_n 0, 1) := by decide +kernel
theorem dJ13_bitCount_95d88_50 : decode cJ13_bitCount_95d88 50 = .ok (.bipush 32, 2) := by decide +kernel
theorem dJ13_bitCount_95d88_52 : decode cJ13_bitCount_95d88 52 = .ok (.lushr, 1) := by decide +kernel
theorem dJ13_bitCount_95d88_53 : decode cJ13_bitCount_95d88 53 = .ok (.ladd, 1) := by decide +kernel
theorem dJ13_bitCount_95d88_54 : decode cJ13_bitCount_95d88 54 = .ok (.lstore_n 0, 1) := by decide +kernel
theorem dJ13_bitCount_95d88_55 : decode cJ13_bitCount_95d88 55 = .ok (.lload_n 0, 1) := by decide +kernel
theorem dJ13_bitCount_95d88_56 : decode cJ13_bitCount_95d88 56 = .ok (.l2i, 1) := by decide +kernel
theorem dJ13_bitCount_95d88_57 : decode cJ13_bitCount_95d88 57 = .ok (.bipush 127, 2) := by decide +kernel
theorem dJ13_bitCount_95d88_59 : decode cJ13_bitCount_95d88 59 = .ok (.iand, 1) := by decide +kernel
theorem dJ13_bitCount_95d88_60 : decode cJ13_bitCount_95d88 60 = .ok (.ireturn, 1) := by decide +kernel
theorem dJ9_max_7cf53_0 : decode cJ9_max_7cf53 0 = .ok (.iload_n 0, 1) := by decide +kernel
theorem dJ9_max_7cf53_1 : decode cJ9_max_7cf53 1 = .ok (.iload_n 1, 1) := by decide +kernel
theorem dJ9_max_7cf53_2 : decode cJ9_max_7cf53 2 = .ok (.if_icmp .lt 7, 3) := by decide +kernel
theorem dJ9_max_7cf53_5 : decode cJ9_max_7cf53 5 = .ok (.iload_n 0, 1) := by decide +kernel
theorem dJ9_max_7cf53_6 : decode cJ9_max_7cf53 6 = .ok (.goto 4, 3) := by decide +kernel
theorem dJ9_max_7cf53_9 : decode cJ9_max_7cf53 9 = .ok (.iload_n 1, 1) := by decide +kernel
theorem dJ9_max_7cf53_10 : decode cJ9_max_7cf53 10 = .ok (.ireturn, 1) := by decide +kernel
theorem dJ9_min_7cf53_0 : decode cJ9_min_7cf53 0 = .ok (.iload_n 0, 1) := by decide +kernel
theorem dJ9_min_7cf53_1 : decode cJ9_min_7cf53 1 = .ok (.iload_n 1, 1) := by decide +kernel
theorem dJ9_min_7cf53_2 : decode cJ9_min_7cf53 2 = .ok (.if_icmp .gt 7, 3) := by decide +kernel
theorem dJ9_min_7cf53_5 : decode cJ9_min_7cf53 5 = .ok (.iload_n 0, 1) := by decide +kernel
theorem dJ9_min_7cf53_6 : decode cJ9_min_7cf53 6 = .ok (.goto 4, 3) := by decide +kernel
theorem dJ9_min_7cf53_9 : decode cJ9_min_7cf53 9 = .ok (.iload_n 1, 1) := by decide +kernel
theorem dJ9_min_7cf53_10 : decode cJ9_min_7cf53 10 = .ok (.ireturn, 1) := by decide +kernel
theorem dJ7_fill_53178_0 : decode cJ7_fill_53178 0 = .ok (.iconst 0, 1) := by decide +kernel
theorem dJ7_fill_53178_1 : decode cJ7_fill_53178 1 = .ok (.istore_n 2, 1) := by decide +kernel
theorem dJ7_fill_53178_2 : decode cJ7_fill_53178 2 = .ok (.aload_n 0, 1) := by decide +kernel
theorem dJ7_fill_53178_3 : decode cJ7_fill_53178 3 = .ok (.arraylength, 1) := by decide +kernel
theorem dJ7_fill_53178_4 : decode cJ7_fill_53178 4 = .ok (.istore_n 3, 1) := by decide +kernel
theorem dJ7_fill_53178_5 : decode cJ7_fill_53178 5 = .ok (.iload_n 2, 1) := by decide +kernel
theorem dJ7_fill_53178_6 : decode cJ7_fill_53178 6 = .ok (.iload_n 3, 1) := by decide +kernel
theorem dJ7_fill_53178_7 : decode cJ7_fill_53178 7 = .ok (.if_icmp .ge 13, 3) := by decide +kernel
theorem dJ7_fill_53178_10 : decode cJ7_fill_53178 10 = .ok (.aload_n 0, 1) := by decide +kernel
theorem dJ7_fill_53178_11 : decode cJ7_fill_53178 11 = .ok (.iload_n 2, 1) := by decide +kernel
theorem dJ7_fill_53178_12 : decode cJ7_fill_53178 12 = .ok (.iload_n 1, 1) := by decide +kernel
theorem dJ7_fill_53178_13 : decode cJ7_fill_53178 13 = .ok (.iastore, 1) := by decide +kernel
theorem dJ7_fill_53178_14 : decode cJ7_fill_53178 14 = .ok (.iinc 2 1, 3) := by decide +kernel
theorem dJ7_fill_53178_17 : decode cJ7_fill_53178 17 = .ok (.goto (-12), 3) := by decide +kernel
theorem dJ7_fill_53178_20 : decode cJ7_fill_53178 20 = .ok (.return_, 1) := by decide +kernel
theorem dL_cell_0 : decode cL_cell 0 = .ok (.iload_n 1, 1) := by decide +kernel
theorem dL_cell_1 : decode cL_cell 1 = .ok (.aload_n 0, 1) := by decide +kernel
theorem dL_cell_2 : decode cL_cell 2 = .ok (.arraylength, 1) := by decide +kernel
theorem dL_cell_3 : decode cL_cell 3 = .ok (.if_icmp .ge 9, 3) := by decide +kernel
theorem dL_cell_6 : decode cL_cell 6 = .ok (.aload_n 0, 1) := by decide +kernel
theorem dL_cell_7 : decode cL_cell 7 = .ok (.iload_n 1, 1) := by decide +kernel
theorem dL_cell_8 : decode cL_cell 8 = .ok (.iaload, 1) := by decide +kernel
theorem dL_cell_9 : decode cL_cell 9 = .ok (.goto 10, 3) := by decide +kernel
theorem dL_cell_12 : decode cL_cell 12 = .ok (.ldc 7, 2) := by decide +kernel
theorem dL_cell_14 : decode cL_cell 14 = .ok (.iload_n 1, 1) := by decide +kernel
theorem dL_cell_15 : decode cL_cell 15 = .ok (.imul, 1) := by decide +kernel
theorem dL_cell_16 : decode cL_cell 16 = .ok (.ldc 8, 2) := by decide +kernel
theorem dL_cell_18 : decode cL_cell 18 = .ok (.iadd, 1) := by decide +kernel
theorem dL_cell_19 : decode cL_cell 19 = .ok (.ireturn, 1) := by decide +kernel
theorem dL_low_0 : decode cL_low 0 = .ok (.iload_n 0, 1) := by decide +kernel
theorem dL_low_1 : decode cL_low 1 = .ok (.ldc 9, 2) := by decide +kernel
theorem dL_low_3 : decode cL_low 3 = .ok (.iand, 1) := by decide +kernel
theorem dL_low_4 : decode cL_low 4 = .ok (.iload_n 1, 1) := by decide +kernel
theorem dL_low_5 : decode cL_low 5 = .ok (.irem, 1) := by decide +kernel
theorem dL_low_6 : decode cL_low 6 = .ok (.ireturn, 1) := by decide +kernel
theorem dL_bits_0 : decode cL_bits 0 = .ok (.iconst 0, 1) := by decide +kernel
theorem dL_bits_1 : decode cL_bits 1 = .ok (.istore_n 1, 1) := by decide +kernel
theorem dL_bits_2 : decode cL_bits 2 = .ok (.iconst 0, 1) := by decide +kernel
theorem dL_bits_3 : decode cL_bits 3 = .ok (.istore_n 2, 1) := by decide +kernel
theorem dL_bits_4 : decode cL_bits 4 = .ok (.iload_n 2, 1) := by decide +kernel
theorem dL_bits_5 : decode cL_bits 5 = .ok (.bipush 6, 2) := by decide +kernel
theorem dL_bits_7 : decode cL_bits 7 = .ok (.if_icmp .ge 17, 3) := by decide +kernel
theorem dL_bits_10 : decode cL_bits 10 = .ok (.iload_n 1, 1) := by decide +kernel
theorem dL_bits_11 : decode cL_bits 11 = .ok (.iload_n 0, 1) := by decide +kernel
theorem dL_bits_12 : decode cL_bits 12 = .ok (.iload_n 2, 1) := by decide +kernel
theorem dL_bits_13 : decode cL_bits 13 = .ok (.ishr, 1) := by decide +kernel
theorem dL_bits_14 : decode cL_bits 14 = .ok (.iconst 1, 1) := by decide +kernel
theorem dL_bits_15 : decode cL_bits 15 = .ok (.iand, 1) := by decide +kernel
theorem dL_bits_16 : decode cL_bits 16 = .ok (.iadd, 1) := by decide +kernel
theorem dL_bits_17 : decode cL_bits 17 = .ok (.istore_n 1, 1) := by decide +kernel
theorem dL_bits_18 : decode cL_bits 18 = .ok (.iinc 2 1, 3) := by decide +kernel
theorem dL_bits_21 : decode cL_bits 21 = .ok (.goto (-17), 3) := by decide +kernel
theorem dL_bits_24 : decode cL_bits 24 = .ok (.iload_n 1, 1) := by decide +kernel
theorem dL_bits_25 : decode cL_bits 25 = .ok (.ireturn, 1) := by decide +kernel
theorem dL_placeOf_0 : decode cL_placeOf 0 = .ok (.aload_n 0, 1) := by decide +kernel
theorem dL_placeOf_1 : decode cL_placeOf 1 = .ok (.iload_n 1, 1) := by decide +kernel
theorem dL_placeOf_2 : decode cL_placeOf 2 = .ok (.iconst 0, 1) := by decide +kernel
theorem dL_placeOf_3 : decode cL_placeOf 3 = .ok (.invokevirtual 10, 3) := by decide +kernel
theorem dL_placeOf_6 : decode cL_placeOf 6 = .ok (.istore_n 3, 1) := by decide +kernel
theorem dL_placeOf_7 : decode cL_placeOf 7 = .ok (.iconst 0, 1) := by decide +kernel
theorem dL_placeOf_8 : decode cL_placeOf 8 = .ok (.istore 4, 2) := by decide +kernel
theorem dL_placeOf_10 : decode cL_placeOf 10 = .ok (.iload 4, 2) := by decide +kernel
theorem dL_placeOf_12 : decode cL_placeOf 12 = .ok (.iload_n 3, 1) := by decide +kernel
theorem dL_placeOf_13 : decode cL_placeOf 13 = .ok (.if_icmp .ge 24, 3) := by decide +kernel
theorem dL_placeOf_16 : decode cL_placeOf 16 = .ok (.aload_n 0, 1) := by decide +kernel
theorem dL_placeOf_17 : decode cL_placeOf 17 = .ok (.iload_n 1, 1) := by decide +kernel
theorem dL_placeOf_18 : decode cL_placeOf 18 = .ok (.iload 4, 2) := by decide +kernel
theorem dL_placeOf_20 : decode cL_placeOf 20 = .ok (.iconst 0, 1) := by decide +kernel
theorem dL_placeOf_21 : decode cL_placeOf 21 = .ok (.invokevirtual 16, 3) := by decide +kernel
theorem dL_placeOf_24 : decode cL_placeOf 24 = .ok (.iload_n 2, 1) := by decide +kernel
theorem dL_placeOf_25 : decode cL_placeOf 25 = .ok (.if_icmp .ne 6, 3) := by decide +kernel
theorem dL_placeOf_28 : decode cL_placeOf 28 = .ok (.iload 4, 2) := by decide +kernel
theorem dL_placeOf_30 : decode cL_placeOf 30 = .ok (.ireturn, 1) := by decide +kernel
theorem dL_placeOf_31 : decode cL_placeOf 31 = .ok (.iinc 4 1, 3) := by decide +kernel
theorem dL_placeOf_34 : decode cL_placeOf 34 = .ok (.goto (-24), 3) := by decide +kernel
theorem dL_placeOf_37 : decode cL_placeOf 37 = .ok (.iconst (-1), 1) := by decide +kernel
theorem dL_placeOf_38 : decode cL_placeOf 38 = .ok (.ireturn, 1) := by decide +kernel
theorem dL_isInOrder_0 : decode cL_isInOrder 0 = .ok (.aload_n 0, 1) := by decide +kernel
theorem dL_isInOrder_1 : decode cL_isInOrder 1 = .ok (.iload_n 1, 1) := by decide +kernel
theorem dL_isInOrder_2 : decode cL_isInOrder 2 = .ok (.iconst 0, 1) := by decide +kernel
theorem dL_isInOrder_3 : decode cL_isInOrder 3 = .ok (.invokevirtual 10, 3) := by decide +kernel
theorem dL_isInOrder_6 : decode cL_isInOrder 6 = .ok (.istore_n 2, 1) := by decide +kernel
theorem dL_isInOrder_7 : decode cL_isInOrder 7 = .ok (.aload_n 0, 1) := by decide +kernel
theorem dL_isInOrder_8 : decode cL_isInOrder 8 = .ok (.iload_n 1, 1) := by decide +kernel
theorem dL_isInOrder_9 : decode cL_isInOrder 9 = .ok (.iload_n 2, 1) := by decide +kernel
theorem dL_isInOrder_10 : decode cL_isInOrder 10 = .ok (.iconst 0, 1) := by decide +kernel
theorem dL_isInOrder_11 : decode cL_isInOrder 11 = .ok (.invokevirtual 16, 3) := by decide +kernel
theorem dL_isInOrder_14 : decode cL_isInOrder 14 = .ok (.bipush (-5), 2) := by decide +kernel
theorem dL_isInOrder_16 : decode cL_isInOrder 16 = .ok (.if_icmp .ne 31, 3) := by decide +kernel
theorem dL_isInOrder_19 : decode cL_isInOrder 19 = .ok (.aload_n 0, 1) := by decide +kernel
theorem dL_isInOrder_20 : decode cL_isInOrder 20 = .ok (.iload_n 1, 1) := by decide +kernel
theorem dL_isInOrder_21 : decode cL_isInOrder 21 = .ok (.iconst 3, 1) := by decide +kernel
theorem dL_isInOrder_22 : decode cL_isInOrder 22 = .ok (.invokevirtual 10, 3) := by decide +kernel
theorem dL_isInOrder_25 : decode cL_isInOrder 25 = .ok (.iload_n 2, 1) := by decide +kernel
theorem dL_isInOrder_26 : decode cL_isInOrder 26 = .ok (.ifCond .ne 7, 3) := by decide +kernel
theorem dL_isInOrder_29 : decode cL_isInOrder 29 = .ok (.iconst 0, 1) := by decide +kernel
theorem dL_isInOrder_30 : decode cL_isInOrder 30 = .ok (.goto 10, 3) := by decide +kernel
theorem dL_isInOrder_33 : decode cL_isInOrder 33 = .ok (.aload_n 0, 1) := by decide +kernel
theorem dL_isInOrder_34 : decode cL_isInOrder 34 = .ok (.iload_n 1, 1) := by decide +kernel
theorem dL_isInOrder_35 : decode cL_isInOrder 35 = .ok (.iconst 0, 1) := by decide +kernel
theorem dL_isInOrder_36 : decode cL_isInOrder 36 = .ok (.iconst 1, 1) := by decide +kernel
theorem dL_isInOrder_37 : decode cL_isInOrder 37 = .ok (.invokevirtual 16, 3) := by decide +kernel
theorem dL_isInOrder_40 : decode cL_isInOrder 40 = .ok (.if_icmp .ne 7, 3) := by decide +kernel
theorem dL_isInOrder_43 : decode cL_isInOrder 43 = .ok (.iconst 1, 1) := by decide +kernel
theorem dL_isInOrder_44 : decode cL_isInOrder 44 = .ok (.goto 4, 3) := by decide +kernel
theorem dL_isInOrder_47 : decode cL_isInOrder 47 = .ok (.iconst 0, 1) := by decide +kernel
theorem dL_isInOrder_48 : decode cL_isInOrder 48 = .ok (.istore_n 3, 1) := by decide +kernel
theorem dL_isInOrder_49 : decode cL_isInOrder 49 = .ok (.iconst 1, 1) := by decide +kernel
theorem dL_isInOrder_50 : decode cL_isInOrder 50 = .ok (.istore 4, 2) := by decide +kernel
theorem dL_isInOrder_52 : decode cL_isInOrder 52 = .ok (.iload 4, 2) := by decide +kernel
theorem dL_isInOrder_54 : decode cL_isInOrder 54 = .ok (.iload_n 2, 1) := by decide +kernel
theorem dL_isInOrder_55 : decode cL_isInOrder 55 = .ok (.if_icmp .ge 71, 3) := by decide +kernel
theorem dL_isInOrder_58 : decode cL_isInOrder 58 = .ok (.iload_n 3, 1) := by decide +kernel
theorem dL_isInOrder_59 : decode cL_isInOrder 59 = .ok (.ifCond .eq 67, 3) := by decide +kernel
theorem dL_isInOrder_62 : decode cL_isInOrder 62 = .ok (.aload_n 0, 1) := by decide +kernel
theorem dL_isInOrder_63 : decode cL_isInOrder 63 = .ok (.iload_n 1, 1) := by decide +kernel
theorem dL_isInOrder_64 : decode cL_isInOrder 64 = .ok (.iload 4, 2) := by decide +kernel
theorem dL_isInOrder_66 : decode cL_isInOrder 66 = .ok (.iconst 1, 1) := by decide +kernel
theorem dL_isInOrder_67 : decode cL_isInOrder 67 = .ok (.isub, 1) := by decide +kernel
theorem dL_isInOrder_68 : decode cL_isInOrder 68 = .ok (.iconst 1, 1) := by decide +kernel
theorem dL_isInOrder_69 : decode cL_isInOrder 69 = .ok (.invokevirtual 16, 3) := by decide +kernel
theorem dL_isInOrder_72 : decode cL_isInOrder 72 = .ok (.aload_n 0, 1) := by decide +kernel
theorem dL_isInOrder_73 : decode cL_isInOrder 73 = .ok (.iload_n 1, 1) := by decide +kernel
theorem dL_isInOrder_74 : decode cL_isInOrder 74 = .ok (.iload 4, 2) := by decide +kernel
theorem dL_isInOrder_76 : decode cL_isInOrder 76 = .ok (.iconst 1, 1) := by decide +kernel
theorem dL_isInOrder_77 : decode cL_isInOrder 77 = .ok (.invokevirtual 16, 3) := by decide +kernel
theorem dL_isInOrder_80 : decode cL_isInOrder 80 = .ok (.isub, 1) := by decide +kernel
theorem dL_isInOrder_81 : decode cL_isInOrder 81 = .ok (.istore 5, 2) := by decide +kernel
theorem dL_isInOrder_83 : decode cL_isInOrder 83 = .ok (.iload 5, 2) := by decide +kernel
theorem dL_isInOrder_85 : decode cL_isInOrder 85 = .ok (.ifCond .gt 29, 3) := by decide +kernel
theorem dL_isInOrder_88 : decode cL_isInOrder 88 = .ok (.iload 5, 2) := by decide +kernel
theorem dL_isInOrder_90 : decode cL_isInOrder 90 = .ok (.ifCond .ne 28, 3) := by decide +kernel
theorem dL_isInOrder_93 : decode cL_isInOrder 93 = .ok (.aload_n 0, 1) := by decide +kernel
theorem dL_isInOrder_94 : decode cL_isInOrder 94 = .ok (.iload_n 1, 1) := by decide +kernel
theorem dL_isInOrder_95 : decode cL_isInOrder 95 = .ok (.iload 4, 2) := by decide +kernel
theorem dL_isInOrder_97 : decode cL_isInOrder 97 = .ok (.iconst 1, 1) := by decide +kernel
theorem dL_isInOrder_98 : decode cL_isInOrder 98 = .ok (.isub, 1) := by decide +kernel
theorem dL_isInOrder_99 : decode cL_isInOrder 99 = .ok (.iconst 0, 1) := by decide +kernel
theorem dL_isInOrder_100 : decode cL_isInOrder 100 = .ok (.invokevirtual 16, 3) := by decide +kernel
theorem dL_isInOrder_103 : decode cL_isInOrder 103 = .ok (.aload_n 0, 1) := by decide +kernel
theorem dL_isInOrder_104 : decode cL_isInOrder 104 = .ok (.iload_n 1, 1) := by decide +kernel
theorem dL_isInOrder_105 : decode cL_isInOrder 105 = .ok (.iload 4, 2) := by decide +kernel
theorem dL_isInOrder_107 : decode cL_isInOrder 107 = .ok (.iconst 0, 1) := by decide +kernel
theorem dL_isInOrder_108 : decode cL_isInOrder 108 = .ok (.invokevirtual 16, 3) := by decide +kernel
theorem dL_isInOrder_111 : decode cL_isInOrder 111 = .ok (.if_icmp .ge 7, 3) := by decide +kernel
theorem dL_isInOrder_114 : decode cL_isInOrder 114 = .ok (.iconst 1, 1) := by decide +kernel
theorem dL_isInOrder_115 : decode cL_isInOrder 115 = .ok (.goto 4, 3) := by decide +kernel
theorem dL_isInOrder_118 : decode cL_isInOrder 118 = .ok (.iconst 0, 1) := by decide +kernel
theorem dL_isInOrder_119 : decode cL_isInOrder 119 = .ok (.istore_n 3, 1) := by decide +kernel
theorem dL_isInOrder_120 : decode cL_isInOrder 120 = .ok (.iinc 4 1, 3) := by decide +kernel
theorem dL_isInOrder_123 : decode cL_isInOrder 123 = .ok (.goto (-71), 3) := by decide +kernel
theorem dL_isInOrder_126 : decode cL_isInOrder 126 = .ok (.iload_n 3, 1) := by decide +kernel
theorem dL_isInOrder_127 : decode cL_isInOrder 127 = .ok (.ireturn, 1) := by decide +kernel
theorem dL_fill_0 : decode cL_fill 0 = .ok (.iconst 1, 1) := by decide +kernel
theorem dL_fill_1 : decode cL_fill 1 = .ok (.aload_n 1, 1) := by decide +kernel
theorem dL_fill_2 : decode cL_fill 2 = .ok (.iload_n 3, 1) := by decide +kernel
theorem dL_fill_3 : decode cL_fill 3 = .ok (.invokestatic 20, 3) := by decide +kernel
theorem dL_fill_6 : decode cL_fill 6 = .ok (.bipush 9, 2) := by decide +kernel
theorem dL_fill_8 : decode cL_fill 8 = .ok (.invokestatic 26, 3) := by decide +kernel
theorem dL_fill_11 : decode cL_fill 11 = .ok (.iadd, 1) := by decide +kernel
theorem dL_fill_12 : decode cL_fill 12 = .ok (.istore 4, 2) := by decide +kernel
theorem dL_fill_14 : decode cL_fill 14 = .ok (.iconst 1, 1) := by decide +kernel
theorem dL_fill_15 : decode cL_fill 15 = .ok (.istore 5, 2) := by decide +kernel
theorem dL_fill_17 : decode cL_fill 17 = .ok (.iload 5, 2) := by decide +kernel
theorem dL_fill_19 : decode cL_fill 19 = .ok (.iload 4, 2) := by decide +kernel
theorem dL_fill_21 : decode cL_fill 21 = .ok (.if_icmp .gt 254, 3) := by decide +kernel
theorem dL_fill_24 : decode cL_fill 24 = .ok (.aload_n 1, 1) := by decide +kernel
theorem dL_fill_25 : decode cL_fill 25 = .ok (.iload_n 3, 1) := by decide +kernel
