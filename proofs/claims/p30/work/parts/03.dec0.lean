theorem dX0_init_0 : decode cX0_init 0 = .ok (.aload_n 0, 1) := by decide +kernel
theorem dX0_init_1 : decode cX0_init 1 = .ok (.invokespecial 3, 3) := by decide +kernel
theorem dX0_init_4 : decode cX0_init 4 = .ok (.aload_n 0, 1) := by decide +kernel
theorem dX0_init_5 : decode cX0_init 5 = .ok (.iconst 4, 1) := by decide +kernel
theorem dX0_init_6 : decode cX0_init 6 = .ok (.anewarray 9, 3) := by decide +kernel
theorem dX0_init_9 : decode cX0_init 9 = .ok (.putfield 11, 3) := by decide +kernel
theorem dX0_init_12 : decode cX0_init 12 = .ok (.aload_n 0, 1) := by decide +kernel
theorem dX0_init_13 : decode cX0_init 13 = .ok (.iconst 0, 1) := by decide +kernel
theorem dX0_init_14 : decode cX0_init 14 = .ok (.putfield 17, 3) := by decide +kernel
theorem dX0_init_17 : decode cX0_init 17 = .ok (.iconst 0, 1) := by decide +kernel
theorem dX0_init_18 : decode cX0_init 18 = .ok (.istore_n 1, 1) := by decide +kernel
theorem dX0_init_19 : decode cX0_init 19 = .ok (.iload_n 1, 1) := by decide +kernel
theorem dX0_init_20 : decode cX0_init 20 = .ok (.aload_n 0, 1) := by decide +kernel
theorem dX0_init_21 : decode cX0_init 21 = .ok (.getfield 11, 3) := by decide +kernel
theorem dX0_init_24 : decode cX0_init 24 = .ok (.arraylength, 1) := by decide +kernel
theorem dX0_init_25 : decode cX0_init 25 = .ok (.if_icmp .ge 22, 3) := by decide +kernel
theorem dX0_init_28 : decode cX0_init 28 = .ok (.aload_n 0, 1) := by decide +kernel
theorem dX0_init_29 : decode cX0_init 29 = .ok (.getfield 11, 3) := by decide +kernel
theorem dX0_init_32 : decode cX0_init 32 = .ok (.iload_n 1, 1) := by decide +kernel
theorem dX0_init_33 : decode cX0_init 33 = .ok (.new 9, 3) := by decide +kernel
theorem dX0_init_36 : decode cX0_init 36 = .ok (.dup, 1) := by decide +kernel
theorem dX0_init_37 : decode cX0_init 37 = .ok (.invokespecial 21, 3) := by decide +kernel
theorem dX0_init_40 : decode cX0_init 40 = .ok (.aastore, 1) := by decide +kernel
theorem dX0_init_41 : decode cX0_init 41 = .ok (.iinc 1 1, 3) := by decide +kernel
theorem dX0_init_44 : decode cX0_init 44 = .ok (.goto (-25), 3) := by decide +kernel
theorem dX0_init_47 : decode cX0_init 47 = .ok (.return_, 1) := by decide +kernel
theorem dX0_record_0 : decode cX0_record 0 = .ok (.aload_n 0, 1) := by decide +kernel
theorem dX0_record_1 : decode cX0_record 1 = .ok (.getfield 17, 3) := by decide +kernel
theorem dX0_record_4 : decode cX0_record 4 = .ok (.iconst 4, 1) := by decide +kernel
theorem dX0_record_5 : decode cX0_record 5 = .ok (.if_icmp .lt 12, 3) := by decide +kernel
theorem dX0_record_8 : decode cX0_record 8 = .ok (.aload_n 0, 1) := by decide +kernel
theorem dX0_record_9 : decode cX0_record 9 = .ok (.invokevirtual 22, 3) := by decide +kernel
theorem dX0_record_12 : decode cX0_record 12 = .ok (.aload_n 0, 1) := by decide +kernel
theorem dX0_record_13 : decode cX0_record 13 = .ok (.iconst 3, 1) := by decide +kernel
theorem dX0_record_14 : decode cX0_record 14 = .ok (.putfield 17, 3) := by decide +kernel
theorem dX0_record_17 : decode cX0_record 17 = .ok (.aload_n 0, 1) := by decide +kernel
theorem dX0_record_18 : decode cX0_record 18 = .ok (.aload_n 0, 1) := by decide +kernel
theorem dX0_record_19 : decode cX0_record 19 = .ok (.getfield 17, 3) := by decide +kernel
theorem dX0_record_22 : decode cX0_record 22 = .ok (.invokevirtual 25, 3) := by decide +kernel
theorem dX0_record_25 : decode cX0_record 25 = .ok (.astore_n 2, 1) := by decide +kernel
theorem dX0_record_26 : decode cX0_record 26 = .ok (.aload_n 2, 1) := by decide +kernel
theorem dX0_record_27 : decode cX0_record 27 = .ok (.ifnull 18, 3) := by decide +kernel
theorem dX0_record_30 : decode cX0_record 30 = .ok (.aload_n 2, 1) := by decide +kernel
theorem dX0_record_31 : decode cX0_record 31 = .ok (.aload_n 1, 1) := by decide +kernel
theorem dX0_record_32 : decode cX0_record 32 = .ok (.invokevirtual 29, 3) := by decide +kernel
theorem dX0_record_35 : decode cX0_record 35 = .ok (.aload_n 0, 1) := by decide +kernel
theorem dX0_record_36 : decode cX0_record 36 = .ok (.dup, 1) := by decide +kernel
theorem dX0_record_37 : decode cX0_record 37 = .ok (.getfield 17, 3) := by decide +kernel
theorem dX0_record_40 : decode cX0_record 40 = .ok (.iconst 1, 1) := by decide +kernel
theorem dX0_record_41 : decode cX0_record 41 = .ok (.iadd, 1) := by decide +kernel
theorem dX0_record_42 : decode cX0_record 42 = .ok (.putfield 17, 3) := by decide +kernel
theorem dX0_record_45 : decode cX0_record 45 = .ok (.return_, 1) := by decide +kernel
theorem dX0_moveOldestToEnd_0 : decode cX0_moveOldestToEnd 0 = .ok (.iconst 1, 1) := by decide +kernel
theorem dX0_moveOldestToEnd_1 : decode cX0_moveOldestToEnd 1 = .ok (.istore_n 1, 1) := by decide +kernel
theorem dX0_moveOldestToEnd_2 : decode cX0_moveOldestToEnd 2 = .ok (.iload_n 1, 1) := by decide +kernel
theorem dX0_moveOldestToEnd_3 : decode cX0_moveOldestToEnd 3 = .ok (.aload_n 0, 1) := by decide +kernel
theorem dX0_moveOldestToEnd_4 : decode cX0_moveOldestToEnd 4 = .ok (.getfield 11, 3) := by decide +kernel
theorem dX0_moveOldestToEnd_7 : decode cX0_moveOldestToEnd 7 = .ok (.arraylength, 1) := by decide +kernel
theorem dX0_moveOldestToEnd_8 : decode cX0_moveOldestToEnd 8 = .ok (.if_icmp .ge 39, 3) := by decide +kernel
theorem dX0_moveOldestToEnd_11 : decode cX0_moveOldestToEnd 11 = .ok (.aload_n 0, 1) := by decide +kernel
theorem dX0_moveOldestToEnd_12 : decode cX0_moveOldestToEnd 12 = .ok (.getfield 11, 3) := by decide +kernel
theorem dX0_moveOldestToEnd_15 : decode cX0_moveOldestToEnd 15 = .ok (.iload_n 1, 1) := by decide +kernel
theorem dX0_moveOldestToEnd_16 : decode cX0_moveOldestToEnd 16 = .ok (.iconst 1, 1) := by decide +kernel
theorem dX0_moveOldestToEnd_17 : decode cX0_moveOldestToEnd 17 = .ok (.isub, 1) := by decide +kernel
theorem dX0_moveOldestToEnd_18 : decode cX0_moveOldestToEnd 18 = .ok (.aaload, 1) := by decide +kernel
theorem dX0_moveOldestToEnd_19 : decode cX0_moveOldestToEnd 19 = .ok (.astore_n 2, 1) := by decide +kernel
theorem dX0_moveOldestToEnd_20 : decode cX0_moveOldestToEnd 20 = .ok (.aload_n 0, 1) := by decide +kernel
theorem dX0_moveOldestToEnd_21 : decode cX0_moveOldestToEnd 21 = .ok (.getfield 11, 3) := by decide +kernel
theorem dX0_moveOldestToEnd_24 : decode cX0_moveOldestToEnd 24 = .ok (.iload_n 1, 1) := by decide +kernel
theorem dX0_moveOldestToEnd_25 : decode cX0_moveOldestToEnd 25 = .ok (.iconst 1, 1) := by decide +kernel
theorem dX0_moveOldestToEnd_26 : decode cX0_moveOldestToEnd 26 = .ok (.isub, 1) := by decide +kernel
theorem dX0_moveOldestToEnd_27 : decode cX0_moveOldestToEnd 27 = .ok (.aload_n 0, 1) := by decide +kernel
theorem dX0_moveOldestToEnd_28 : decode cX0_moveOldestToEnd 28 = .ok (.getfield 11, 3) := by decide +kernel
theorem dX0_moveOldestToEnd_31 : decode cX0_moveOldestToEnd 31 = .ok (.iload_n 1, 1) := by decide +kernel
theorem dX0_moveOldestToEnd_32 : decode cX0_moveOldestToEnd 32 = .ok (.aaload, 1) := by decide +kernel
theorem dX0_moveOldestToEnd_33 : decode cX0_moveOldestToEnd 33 = .ok (.aastore, 1) := by decide +kernel
theorem dX0_moveOldestToEnd_34 : decode cX0_moveOldestToEnd 34 = .ok (.aload_n 0, 1) := by decide +kernel
theorem dX0_moveOldestToEnd_35 : decode cX0_moveOldestToEnd 35 = .ok (.getfield 11, 3) := by decide +kernel
theorem dX0_moveOldestToEnd_38 : decode cX0_moveOldestToEnd 38 = .ok (.iload_n 1, 1) := by decide +kernel
theorem dX0_moveOldestToEnd_39 : decode cX0_moveOldestToEnd 39 = .ok (.aload_n 2, 1) := by decide +kernel
theorem dX0_moveOldestToEnd_40 : decode cX0_moveOldestToEnd 40 = .ok (.aastore, 1) := by decide +kernel
theorem dX0_moveOldestToEnd_41 : decode cX0_moveOldestToEnd 41 = .ok (.iinc 1 1, 3) := by decide +kernel
theorem dX0_moveOldestToEnd_44 : decode cX0_moveOldestToEnd 44 = .ok (.goto (-42), 3) := by decide +kernel
theorem dX0_moveOldestToEnd_47 : decode cX0_moveOldestToEnd 47 = .ok (.return_, 1) := by decide +kernel
theorem dX0_stateAt_0 : decode cX0_stateAt 0 = .ok (.iload_n 1, 1) := by decide +kernel
theorem dX0_stateAt_1 : decode cX0_stateAt 1 = .ok (.ifCond .lt 21, 3) := by decide +kernel
theorem dX0_stateAt_4 : decode cX0_stateAt 4 = .ok (.iload_n 1, 1) := by decide +kernel
theorem dX0_stateAt_5 : decode cX0_stateAt 5 = .ok (.aload_n 0, 1) := by decide +kernel
theorem dX0_stateAt_6 : decode cX0_stateAt 6 = .ok (.getfield 11, 3) := by decide +kernel
theorem dX0_stateAt_9 : decode cX0_stateAt 9 = .ok (.arraylength, 1) := by decide +kernel
theorem dX0_stateAt_10 : decode cX0_stateAt 10 = .ok (.if_icmp .ge 12, 3) := by decide +kernel
theorem dX0_stateAt_13 : decode cX0_stateAt 13 = .ok (.aload_n 0, 1) := by decide +kernel
theorem dX0_stateAt_14 : decode cX0_stateAt 14 = .ok (.getfield 11, 3) := by decide +kernel
theorem dX0_stateAt_17 : decode cX0_stateAt 17 = .ok (.iload_n 1, 1) := by decide +kernel
theorem dX0_stateAt_18 : decode cX0_stateAt 18 = .ok (.aaload, 1) := by decide +kernel
theorem dX0_stateAt_19 : decode cX0_stateAt 19 = .ok (.goto 4, 3) := by decide +kernel
theorem dX0_stateAt_22 : decode cX0_stateAt 22 = .ok (.aconst_null, 1) := by decide +kernel
theorem dX0_stateAt_23 : decode cX0_stateAt 23 = .ok (.areturn, 1) := by decide +kernel
theorem dX1_init_0 : decode cX1_init 0 = .ok (.aload_n 0, 1) := by decide +kernel
theorem dX1_init_1 : decode cX1_init 1 = .ok (.invokespecial 3, 3) := by decide +kernel
theorem dX1_init_4 : decode cX1_init 4 = .ok (.aload_n 0, 1) := by decide +kernel
theorem dX1_init_5 : decode cX1_init 5 = .ok (.sipush 360, 3) := by decide +kernel
theorem dX1_init_8 : decode cX1_init 8 = .ok (.newarray .int, 2) := by decide +kernel
theorem dX1_init_10 : decode cX1_init 10 = .ok (.putfield 9, 3) := by decide +kernel
theorem dX1_init_13 : decode cX1_init 13 = .ok (.aload_n 0, 1) := by decide +kernel
theorem dX1_init_14 : decode cX1_init 14 = .ok (.sipush 240, 3) := by decide +kernel
theorem dX1_init_17 : decode cX1_init 17 = .ok (.newarray .int, 2) := by decide +kernel
theorem dX1_init_19 : decode cX1_init 19 = .ok (.putfield 15, 3) := by decide +kernel
theorem dX1_init_22 : decode cX1_init 22 = .ok (.aload_n 0, 1) := by decide +kernel
theorem dX1_init_23 : decode cX1_init 23 = .ok (.bipush 6, 2) := by decide +kernel
theorem dX1_init_25 : decode cX1_init 25 = .ok (.newarray .int, 2) := by decide +kernel
theorem dX1_init_27 : decode cX1_init 27 = .ok (.putfield 18, 3) := by decide +kernel
theorem dX1_init_30 : decode cX1_init 30 = .ok (.aload_n 0, 1) := by decide +kernel
theorem dX1_init_31 : decode cX1_init 31 = .ok (.bipush 6, 2) := by decide +kernel
theorem dX1_init_33 : decode cX1_init 33 = .ok (.newarray .int, 2) := by decide +kernel
theorem dX1_init_35 : decode cX1_init 35 = .ok (.putfield 21, 3) := by decide +kernel
theorem dX1_init_38 : decode cX1_init 38 = .ok (.aload_n 0, 1) := by decide +kernel
theorem dX1_init_39 : decode cX1_init 39 = .ok (.bipush 6, 2) := by decide +kernel
theorem dX1_init_41 : decode cX1_init 41 = .ok (.newarray .int, 2) := by decide +kernel
theorem dX1_init_43 : decode cX1_init 43 = .ok (.putfield 24, 3) := by decide +kernel
theorem dX1_init_46 : decode cX1_init 46 = .ok (.aload_n 0, 1) := by decide +kernel
theorem dX1_init_47 : decode cX1_init 47 = .ok (.lconst 0, 1) := by decide +kernel
theorem dX1_init_48 : decode cX1_init 48 = .ok (.putfield 27, 3) := by decide +kernel
theorem dX1_init_51 : decode cX1_init 51 = .ok (.aload_n 0, 1) := by decide +kernel
theorem dX1_init_52 : decode cX1_init 52 = .ok (.iconst 3, 1) := by decide +kernel
theorem dX1_init_53 : decode cX1_init 53 = .ok (.putfield 31, 3) := by decide +kernel
theorem dX1_init_56 : decode cX1_init 56 = .ok (.return_, 1) := by decide +kernel
theorem dX1_copyFrom_0 : decode cX1_copyFrom 0 = .ok (.aload_n 1, 1) := by decide +kernel
theorem dX1_copyFrom_1 : decode cX1_copyFrom 1 = .ok (.getfield 9, 3) := by decide +kernel
theorem dX1_copyFrom_4 : decode cX1_copyFrom 4 = .ok (.aload_n 0, 1) := by decide +kernel
theorem dX1_copyFrom_5 : decode cX1_copyFrom 5 = .ok (.getfield 9, 3) := by decide +kernel
theorem dX1_copyFrom_8 : decode cX1_copyFrom 8 = .ok (.invokestatic 35, 3) := by decide +kernel
theorem dX1_copyFrom_11 : decode cX1_copyFrom 11 = .ok (.aload_n 1, 1) := by decide +kernel
theorem dX1_copyFrom_12 : decode cX1_copyFrom 12 = .ok (.getfield 15, 3) := by decide +kernel
theorem dX1_copyFrom_15 : decode cX1_copyFrom 15 = .ok (.aload_n 0, 1) := by decide +kernel
theorem dX1_copyFrom_16 : decode cX1_copyFrom 16 = .ok (.getfield 15, 3) := by decide +kernel
theorem dX1_copyFrom_19 : decode cX1_copyFrom 19 = .ok (.invokestatic 35, 3) := by decide +kernel
theorem dX1_copyFrom_22 : decode cX1_copyFrom 22 = .ok (.aload_n 1, 1) := by decide +kernel
theorem dX1_copyFrom_23 : decode cX1_copyFrom 23 = .ok (.getfield 18, 3) := by decide +kernel
theorem dX1_copyFrom_26 : decode cX1_copyFrom 26 = .ok (.aload_n 0, 1) := by decide +kernel
theorem dX1_copyFrom_27 : decode cX1_copyFrom 27 = .ok (.getfield 18, 3) := by decide +kernel
theorem dX1_copyFrom_30 : decode cX1_copyFrom 30 = .ok (.invokestatic 35, 3) := by decide +kernel
theorem dX1_copyFrom_33 : decode cX1_copyFrom 33 = .ok (.aload_n 1, 1) := by decide +kernel
theorem dX1_copyFrom_34 : decode cX1_copyFrom 34 = .ok (.getfield 21, 3) := by decide +kernel
theorem dX1_copyFrom_37 : decode cX1_copyFrom 37 = .ok (.aload_n 0, 1) := by decide +kernel
theorem dX1_copyFrom_38 : decode cX1_copyFrom 38 = .ok (.getfield 21, 3) := by decide +kernel
theorem dX1_copyFrom_41 : decode cX1_copyFrom 41 = .ok (.invokestatic 35, 3) := by decide +kernel
theorem dX1_copyFrom_44 : decode cX1_copyFrom 44 = .ok (.aload_n 1, 1) := by decide +kernel
theorem dX1_copyFrom_45 : decode cX1_copyFrom 45 = .ok (.getfield 24, 3) := by decide +kernel
theorem dX1_copyFrom_48 : decode cX1_copyFrom 48 = .ok (.aload_n 0, 1) := by decide +kernel
theorem dX1_copyFrom_49 : decode cX1_copyFrom 49 = .ok (.getfield 24, 3) := by decide +kernel
theorem dX1_copyFrom_52 : decode cX1_copyFrom 52 = .ok (.invokestatic 35, 3) := by decide +kernel
theorem dX1_copyFrom_55 : decode cX1_copyFrom 55 = .ok (.aload_n 0, 1) := by decide +kernel
theorem dX1_copyFrom_56 : decode cX1_copyFrom 56 = .ok (.aload_n 1, 1) := by decide +kernel
theorem dX1_copyFrom_57 : decode cX1_copyFrom 57 = .ok (.getfield 27, 3) := by decide +kernel
theorem dX1_copyFrom_60 : decode cX1_copyFrom 60 = .ok (.putfield 27, 3) := by decide +kernel
theorem dX1_copyFrom_63 : decode cX1_copyFrom 63 = .ok (.aload_n 0, 1) := by decide +kernel
theorem dX1_copyFrom_64 : decode cX1_copyFrom 64 = .ok (.aload_n 1, 1) := by decide +kernel
theorem dX1_copyFrom_65 : decode cX1_copyFrom 65 = .ok (.getfield 31, 3) := by decide +kernel
theorem dX1_copyFrom_68 : decode cX1_copyFrom 68 = .ok (.putfield 31, 3) := by decide +kernel
theorem dX1_copyFrom_71 : decode cX1_copyFrom 71 = .ok (.return_, 1) := by decide +kernel
theorem dX1_sizeOf_0 : decode cX1_sizeOf 0 = .ok (.aload_n 0, 1) := by decide +kernel
theorem dX1_sizeOf_1 : decode cX1_sizeOf 1 = .ok (.getfield 18, 3) := by decide +kernel
theorem dX1_sizeOf_4 : decode cX1_sizeOf 4 = .ok (.iload_n 1, 1) := by decide +kernel
theorem dX1_sizeOf_5 : decode cX1_sizeOf 5 = .ok (.invokestatic 39, 3) := by decide +kernel
theorem dX1_sizeOf_8 : decode cX1_sizeOf 8 = .ok (.ireturn, 1) := by decide +kernel
theorem dX1_weightOf_0 : decode cX1_weightOf 0 = .ok (.aload_n 0, 1) := by decide +kernel
theorem dX1_weightOf_1 : decode cX1_weightOf 1 = .ok (.getfield 21, 3) := by decide +kernel
theorem dX1_weightOf_4 : decode cX1_weightOf 4 = .ok (.iload_n 1, 1) := by decide +kernel
theorem dX1_weightOf_5 : decode cX1_weightOf 5 = .ok (.invokestatic 39, 3) := by decide +kernel
theorem dX1_weightOf_8 : decode cX1_weightOf 8 = .ok (.ireturn, 1) := by decide +kernel
theorem dX1_isAsked_0 : decode cX1_isAsked 0 = .ok (.aload_n 0, 1) := by decide +kernel
theorem dX1_isAsked_1 : decode cX1_isAsked 1 = .ok (.getfield 21, 3) := by decide +kernel
theorem dX1_isAsked_4 : decode cX1_isAsked 4 = .ok (.iload_n 1, 1) := by decide +kernel
theorem dX1_isAsked_5 : decode cX1_isAsked 5 = .ok (.invokestatic 39, 3) := by decide +kernel
theorem dX1_isAsked_8 : decode cX1_isAsked 8 = .ok (.ifCond .le 7, 3) := by decide +kernel
theorem dX1_isAsked_11 : decode cX1_isAsked 11 = .ok (.iconst 1, 1) := by decide +kernel
theorem dX1_isAsked_12 : decode cX1_isAsked 12 = .ok (.goto 4, 3) := by decide +kernel
theorem dX1_isAsked_15 : decode cX1_isAsked 15 = .ok (.iconst 0, 1) := by decide +kernel
theorem dX1_isAsked_16 : decode cX1_isAsked 16 = .ok (.ireturn, 1) := by decide +kernel
theorem dX1_questionSize_0 : decode cX1_questionSize 0 = .ok (.iconst 0, 1) := by decide +kernel
theorem dX1_questionSize_1 : decode cX1_questionSize 1 = .ok (.istore_n 1, 1) := by decide +kernel
theorem dX1_questionSize_2 : decode cX1_questionSize 2 = .ok (.iconst 0, 1) := by decide +kernel
theorem dX1_questionSize_3 : decode cX1_questionSize 3 = .ok (.istore_n 2, 1) := by decide +kernel
theorem dX1_questionSize_4 : decode cX1_questionSize 4 = .ok (.iload_n 2, 1) := by decide +kernel
theorem dX1_questionSize_5 : decode cX1_questionSize 5 = .ok (.bipush 6, 2) := by decide +kernel
theorem dX1_questionSize_7 : decode cX1_questionSize 7 = .ok (.if_icmp .ge 20, 3) := by decide +kernel
theorem dX1_questionSize_10 : decode cX1_questionSize 10 = .ok (.iload_n 1, 1) := by decide +kernel
theorem dX1_questionSize_11 : decode cX1_questionSize 11 = .ok (.aload_n 0, 1) := by decide +kernel
theorem dX1_questionSize_12 : decode cX1_questionSize 12 = .ok (.iload_n 2, 1) := by decide +kernel
theorem dX1_questionSize_13 : decode cX1_questionSize 13 = .ok (.invokevirtual 43, 3) := by decide +kernel
theorem dX1_questionSize_16 : decode cX1_questionSize 16 = .ok (.invokestatic 47, 3) := by decide +kernel
theorem dX1_questionSize_19 : decode cX1_questionSize 19 = .ok (.iadd, 1) := by decide +kernel
theorem dX1_questionSize_20 : decode cX1_questionSize 20 = .ok (.istore_n 1, 1) := by decide +kernel
theorem dX1_questionSize_21 : decode cX1_questionSize 21 = .ok (.iinc 2 1, 3) := by decide +kernel
theorem dX1_questionSize_24 : decode cX1_questionSize 24 = .ok (.goto (-20), 3) := by decide +kernel
theorem dX1_questionSize_27 : decode cX1_questionSize 27 = .ok (.iload_n 1, 1) := by decide +kernel
theorem dX1_questionSize_28 : decode cX1_questionSize 28 = .ok (.ireturn, 1) := by decide +kernel
theorem dX1_entries_0 : decode cX1_entries 0 = .ok (.iconst 0, 1) := by decide +kernel
theorem dX1_entries_1 : decode cX1_entries 1 = .ok (.istore_n 1, 1) := by decide +kernel
theorem dX1_entries_2 : decode cX1_entries 2 = .ok (.iconst 0, 1) := by decide +kernel
theorem dX1_entries_3 : decode cX1_entries 3 = .ok (.istore_n 2, 1) := by decide +kernel
theorem dX1_entries_4 : decode cX1_entries 4 = .ok (.iload_n 2, 1) := by decide +kernel
theorem dX1_entries_5 : decode cX1_entries 5 = .ok (.bipush 6, 2) := by decide +kernel
theorem dX1_entries_7 : decode cX1_entries 7 = .ok (.if_icmp .ge 20, 3) := by decide +kernel
theorem dX1_entries_10 : decode cX1_entries 10 = .ok (.iload_n 1, 1) := by decide +kernel
theorem dX1_entries_11 : decode cX1_entries 11 = .ok (.aload_n 0, 1) := by decide +kernel
theorem dX1_entries_12 : decode cX1_entries 12 = .ok (.getfield 18, 3) := by decide +kernel
theorem dX1_entries_15 : decode cX1_entries 15 = .ok (.iload_n 2, 1) := by decide +kernel
theorem dX1_entries_16 : decode cX1_entries 16 = .ok (.invokestatic 39, 3) := by decide +kernel
theorem dX1_entries_19 : decode cX1_entries 19 = .ok (.iadd, 1) := by decide +kernel
theorem dX1_entries_20 : decode cX1_entries 20 = .ok (.istore_n 1, 1) := by decide +kernel
theorem dX1_entries_21 : decode cX1_entries 21 = .ok (.iinc 2 1, 3) := by decide +kernel
theorem dX1_entries_24 : decode cX1_entries 24 = .ok (.goto (-20), 3) := by decide +kernel
theorem dX1_entries_27 : decode cX1_entries 27 = .ok (.iload_n 1, 1) := by decide +kernel
theorem dX1_entries_28 : decode cX1_entries 28 = .ok (.ireturn, 1) := by decide +kernel
theorem dX1_scoreOf_0 : decode cX1_scoreOf 0 = .ok (.iload_n 2, 1) := by decide +kernel
theorem dX1_scoreOf_1 : decode cX1_scoreOf 1 = .ok (.invokestatic 51, 3) := by decide +kernel
theorem dX1_scoreOf_4 : decode cX1_scoreOf 4 = .ok (.ifCond .eq 19, 3) := by decide +kernel
theorem dX1_scoreOf_7 : decode cX1_scoreOf 7 = .ok (.aload_n 0, 1) := by decide +kernel
theorem dX1_scoreOf_8 : decode cX1_scoreOf 8 = .ok (.getfield 9, 3) := by decide +kernel
theorem dX1_scoreOf_11 : decode cX1_scoreOf 11 = .ok (.iload_n 1, 1) := by decide +kernel
theorem dX1_scoreOf_12 : decode cX1_scoreOf 12 = .ok (.bipush 60, 2) := by decide +kernel
theorem dX1_scoreOf_14 : decode cX1_scoreOf 14 = .ok (.imul, 1) := by decide +kernel
theorem dX1_scoreOf_15 : decode cX1_scoreOf 15 = .ok (.iload_n 2, 1) := by decide +kernel
theorem dX1_scoreOf_16 : decode cX1_scoreOf 16 = .ok (.iadd, 1) := by decide +kernel
theorem dX1_scoreOf_17 : decode cX1_scoreOf 17 = .ok (.invokestatic 39, 3) := by decide +kernel
theorem dX1_scoreOf_20 : decode cX1_scoreOf 20 = .ok (.goto 4, 3) := by decide +kernel
theorem dX1_scoreOf_23 : decode cX1_scoreOf 23 = .ok (.iconst 0, 1) := by decide +kernel
theorem dX1_scoreOf_24 : decode cX1_scoreOf 24 = .ok (.ireturn, 1) := by decide +kernel
theorem dX1_documentAt_0 : decode cX1_documentAt 0 = .ok (.aload_n 0, 1) := by decide +kernel
theorem dX1_documentAt_1 : decode cX1_documentAt 1 = .ok (.getfield 15, 3) := by decide +kernel
theorem dX1_documentAt_4 : decode cX1_documentAt 4 = .ok (.iload_n 1, 1) := by decide +kernel
theorem dX1_documentAt_5 : decode cX1_documentAt 5 = .ok (.bipush 40, 2) := by decide +kernel
theorem dX1_documentAt_7 : decode cX1_documentAt 7 = .ok (.imul, 1) := by decide +kernel
theorem dX1_documentAt_8 : decode cX1_documentAt 8 = .ok (.iload_n 2, 1) := by decide +kernel
theorem dX1_documentAt_9 : decode cX1_documentAt 9 = .ok (.iadd, 1) := by decide +kernel
theorem dX1_documentAt_10 : decode cX1_documentAt 10 = .ok (.invokestatic 39, 3) := by decide +kernel
theorem dX1_documentAt_13 : decode cX1_documentAt 13 = .ok (.ireturn, 1) := by decide +kernel
theorem dX1_scoreAt_0 : decode cX1_scoreAt 0 = .ok (.iload_n 2, 1) := by decide +kernel
theorem dX1_scoreAt_1 : decode cX1_scoreAt 1 = .ok (.aload_n 0, 1) := by decide +kernel
theorem dX1_scoreAt_2 : decode cX1_scoreAt 2 = .ok (.getfield 18, 3) := by decide +kernel
theorem dX1_scoreAt_5 : decode cX1_scoreAt 5 = .ok (.iload_n 1, 1) := by decide +kernel
theorem dX1_scoreAt_6 : decode cX1_scoreAt 6 = .ok (.invokestatic 39, 3) := by decide +kernel
theorem dX1_scoreAt_9 : decode cX1_scoreAt 9 = .ok (.if_icmp .ge 17, 3) := by decide +kernel
theorem dX1_scoreAt_12 : decode cX1_scoreAt 12 = .ok (.aload_n 0, 1) := by decide +kernel
theorem dX1_scoreAt_13 : decode cX1_scoreAt 13 = .ok (.iload_n 1, 1) := by decide +kernel
theorem dX1_scoreAt_14 : decode cX1_scoreAt 14 = .ok (.aload_n 0, 1) := by decide +kernel
theorem dX1_scoreAt_15 : decode cX1_scoreAt 15 = .ok (.iload_n 1, 1) := by decide +kernel
theorem dX1_scoreAt_16 : decode cX1_scoreAt 16 = .ok (.iload_n 2, 1) := by decide +kernel
theorem dX1_scoreAt_17 : decode cX1_scoreAt 17 = .ok (.invokevirtual 54, 3) := by decide +kernel
theorem dX1_scoreAt_20 : decode cX1_scoreAt 20 = .ok (.invokevirtual 58, 3) := by decide +kernel
theorem dX1_scoreAt_23 : decode cX1_scoreAt 23 = .ok (.goto 4, 3) := by decide +kernel
theorem dX1_scoreAt_26 : decode cX1_scoreAt 26 = .ok (.iconst 0, 1) := by decide +kernel
theorem dX1_scoreAt_27 : decode cX1_scoreAt 27 = .ok (.ireturn, 1) := by decide +kernel
theorem dX1_putIn_0 : decode cX1_putIn 0 = .ok (.aload_n 0, 1) := by decide +kernel
theorem dX1_putIn_1 : decode cX1_putIn 1 = .ok (.iload_n 1, 1) := by decide +kernel
theorem dX1_putIn_2 : decode cX1_putIn 2 = .ok (.iload_n 2, 1) := by decide +kernel
theorem dX1_putIn_3 : decode cX1_putIn 3 = .ok (.invokevirtual 61, 3) := by decide +kernel
theorem dX1_putIn_6 : decode cX1_putIn 6 = .ok (.aload_n 0, 1) := by decide +kernel
theorem dX1_putIn_7 : decode cX1_putIn 7 = .ok (.getfield 18, 3) := by decide +kernel
theorem dX1_putIn_10 : decode cX1_putIn 10 = .ok (.iload_n 1, 1) := by decide +kernel
theorem dX1_putIn_11 : decode cX1_putIn 11 = .ok (.invokestatic 39, 3) := by decide +kernel
theorem dX1_putIn_14 : decode cX1_putIn 14 = .ok (.istore 4, 2) := by decide +kernel
theorem dX1_putIn_16 : decode cX1_putIn 16 = .ok (.iconst 0, 1) := by decide +kernel
theorem dX1_putIn_17 : decode cX1_putIn 17 = .ok (.istore 5, 2) := by decide +kernel
theorem dX1_putIn_19 : decode cX1_putIn 19 = .ok (.iload 5, 2) := by decide +kernel
theorem dX1_putIn_21 : decode cX1_putIn 21 = .ok (.iload 4, 2) := by decide +kernel
theorem dX1_putIn_23 : decode cX1_putIn 23 = .ok (.if_icmp .ge 21, 3) := by decide +kernel
theorem dX1_putIn_26 : decode cX1_putIn 26 = .ok (.aload_n 0, 1) := by decide +kernel
theorem dX1_putIn_27 : decode cX1_putIn 27 = .ok (.iload_n 1, 1) := by decide +kernel
theorem dX1_putIn_28 : decode cX1_putIn 28 = .ok (.iload 5, 2) := by decide +kernel
theorem dX1_putIn_30 : decode cX1_putIn 30 = .ok (.iload_n 2, 1) := by decide +kernel
theorem dX1_putIn_31 : decode cX1_putIn 31 = .ok (.iload_n 3, 1) := by decide +kernel
theorem dX1_putIn_32 : decode cX1_putIn 32 = .ok (.invokevirtual 65, 3) := by decide +kernel
theorem dX1_putIn_35 : decode cX1_putIn 35 = .ok (.ifCond .eq 9, 3) := by decide +kernel
theorem dX1_putIn_38 : decode cX1_putIn 38 = .ok (.iinc 5 1, 3) := by decide +kernel
theorem dX1_putIn_41 : decode cX1_putIn 41 = .ok (.goto (-22), 3) := by decide +kernel
theorem dX1_putIn_44 : decode cX1_putIn 44 = .ok (.iload_n 1, 1) := by decide +kernel
theorem dX1_putIn_45 : decode cX1_putIn 45 = .ok (.bipush 40, 2) := by decide +kernel
theorem dX1_putIn_47 : decode cX1_putIn 47 = .ok (.imul, 1) := by decide +kernel
theorem dX1_putIn_48 : decode cX1_putIn 48 = .ok (.istore 6, 2) := by decide +kernel
theorem dX1_putIn_50 : decode cX1_putIn 50 = .ok (.iload 4, 2) := by decide +kernel
theorem dX1_putIn_52 : decode cX1_putIn 52 = .ok (.istore 7, 2) := by decide +kernel
theorem dX1_putIn_54 : decode cX1_putIn 54 = .ok (.iload 7, 2) := by decide +kernel
theorem dX1_putIn_56 : decode cX1_putIn 56 = .ok (.iload 5, 2) := by decide +kernel
theorem dX1_putIn_58 : decode cX1_putIn 58 = .ok (.if_icmp .le 35, 3) := by decide +kernel
theorem dX1_putIn_61 : decode cX1_putIn 61 = .ok (.aload_n 0, 1) := by decide +kernel
theorem dX1_putIn_62 : decode cX1_putIn 62 = .ok (.getfield 15, 3) := by decide +kernel
theorem dX1_putIn_65 : decode cX1_putIn 65 = .ok (.iload 6, 2) := by decide +kernel
theorem dX1_putIn_67 : decode cX1_putIn 67 = .ok (.iload 7, 2) := by decide +kernel
theorem dX1_putIn_69 : decode cX1_putIn 69 = .ok (.iadd, 1) := by decide +kernel
theorem dX1_putIn_70 : decode cX1_putIn 70 = .ok (.aload_n 0, 1) := by decide +kernel
theorem dX1_putIn_71 : decode cX1_putIn 71 = .ok (.getfield 15, 3) := by decide +kernel
theorem dX1_putIn_74 : decode cX1_putIn 74 = .ok (.iload 6, 2) := by decide +kernel
theorem dX1_putIn_76 : decode cX1_putIn 76 = .ok (.iload 7, 2) := by decide +kernel
theorem dX1_putIn_78 : decode cX1_putIn 78 = .ok (.iadd, 1) := by decide +kernel
theorem dX1_putIn_79 : decode cX1_putIn 79 = .ok (.iconst 1, 1) := by decide +kernel
theorem dX1_putIn_80 : decode cX1_putIn 80 = .ok (.isub, 1) := by decide +kernel
theorem dX1_putIn_81 : decode cX1_putIn 81 = .ok (.invokestatic 39, 3) := by decide +kernel
theorem dX1_putIn_84 : decode cX1_putIn 84 = .ok (.invokestatic 69, 3) := by decide +kernel
theorem dX1_putIn_87 : decode cX1_putIn 87 = .ok (.iinc 7 (-1), 3) := by decide +kernel
theorem dX1_putIn_90 : decode cX1_putIn 90 = .ok (.goto (-36), 3) := by decide +kernel
theorem dX1_putIn_93 : decode cX1_putIn 93 = .ok (.aload_n 0, 1) := by decide +kernel
theorem dX1_putIn_94 : decode cX1_putIn 94 = .ok (.getfield 15, 3) := by decide +kernel
theorem dX1_putIn_97 : decode cX1_putIn 97 = .ok (.iload 6, 2) := by decide +kernel
theorem dX1_putIn_99 : decode cX1_putIn 99 = .ok (.iload 5, 2) := by decide +kernel
theorem dX1_putIn_101 : decode cX1_putIn 101 = .ok (.iadd, 1) := by decide +kernel
theorem dX1_putIn_102 : decode cX1_putIn 102 = .ok (.iload_n 2, 1) := by decide +kernel
theorem dX1_putIn_103 : decode cX1_putIn 103 = .ok (.invokestatic 69, 3) := by decide +kernel
theorem dX1_putIn_106 : decode cX1_putIn 106 = .ok (.aload_n 0, 1) := by decide +kernel
theorem dX1_putIn_107 : decode cX1_putIn 107 = .ok (.getfield 18, 3) := by decide +kernel
theorem dX1_putIn_110 : decode cX1_putIn 110 = .ok (.iload_n 1, 1) := by decide +kernel
theorem dX1_putIn_111 : decode cX1_putIn 111 = .ok (.iload 4, 2) := by decide +kernel
theorem dX1_putIn_113 : decode cX1_putIn 113 = .ok (.iconst 1, 1) := by decide +kernel
theorem dX1_putIn_114 : decode cX1_putIn 114 = .ok (.iadd, 1) := by decide +kernel
theorem dX1_putIn_115 : decode cX1_putIn 115 = .ok (.invokestatic 69, 3) := by decide +kernel
theorem dX1_putIn_118 : decode cX1_putIn 118 = .ok (.aload_n 0, 1) := by decide +kernel
theorem dX1_putIn_119 : decode cX1_putIn 119 = .ok (.getfield 9, 3) := by decide +kernel
theorem dX1_putIn_122 : decode cX1_putIn 122 = .ok (.iload_n 1, 1) := by decide +kernel
theorem dX1_putIn_123 : decode cX1_putIn 123 = .ok (.bipush 60, 2) := by decide +kernel
theorem dX1_putIn_125 : decode cX1_putIn 125 = .ok (.imul, 1) := by decide +kernel
theorem dX1_putIn_126 : decode cX1_putIn 126 = .ok (.iload_n 2, 1) := by decide +kernel
theorem dX1_putIn_127 : decode cX1_putIn 127 = .ok (.iadd, 1) := by decide +kernel
theorem dX1_putIn_128 : decode cX1_putIn 128 = .ok (.iload_n 3, 1) := by decide +kernel
theorem dX1_putIn_129 : decode cX1_putIn 129 = .ok (.invokestatic 69, 3) := by decide +kernel
theorem dX1_putIn_132 : decode cX1_putIn 132 = .ok (.iload 5, 2) := by decide +kernel
theorem dX1_putIn_134 : decode cX1_putIn 134 = .ok (.ireturn, 1) := by decide +kernel
theorem dX1_standsAhead_0 : decode cX1_standsAhead 0 = .ok (.aload_n 0, 1) := by decide +kernel
theorem dX1_standsAhead_1 : decode cX1_standsAhead 1 = .ok (.iload_n 1, 1) := by decide +kernel
theorem dX1_standsAhead_2 : decode cX1_standsAhead 2 = .ok (.iload_n 2, 1) := by decide +kernel
theorem dX1_standsAhead_3 : decode cX1_standsAhead 3 = .ok (.invokevirtual 73, 3) := by decide +kernel
theorem dX1_standsAhead_6 : decode cX1_standsAhead 6 = .ok (.istore 5, 2) := by decide +kernel
theorem dX1_standsAhead_8 : decode cX1_standsAhead 8 = .ok (.iload 5, 2) := by decide +kernel
theorem dX1_standsAhead_10 : decode cX1_standsAhead 10 = .ok (.iload 4, 2) := by decide +kernel
theorem dX1_standsAhead_12 : decode cX1_standsAhead 12 = .ok (.if_icmp .gt 20, 3) := by decide +kernel
theorem dX1_standsAhead_15 : decode cX1_standsAhead 15 = .ok (.iload 5, 2) := by decide +kernel
theorem dX1_standsAhead_17 : decode cX1_standsAhead 17 = .ok (.iload 4, 2) := by decide +kernel
theorem dX1_standsAhead_19 : decode cX1_standsAhead 19 = .ok (.if_icmp .ne 17, 3) := by decide +kernel
theorem dX1_standsAhead_22 : decode cX1_standsAhead 22 = .ok (.aload_n 0, 1) := by decide +kernel
theorem dX1_standsAhead_23 : decode cX1_standsAhead 23 = .ok (.iload_n 1, 1) := by decide +kernel
theorem dX1_standsAhead_24 : decode cX1_standsAhead 24 = .ok (.iload_n 2, 1) := by decide +kernel
theorem dX1_standsAhead_25 : decode cX1_standsAhead 25 = .ok (.invokevirtual 54, 3) := by decide +kernel
theorem dX1_standsAhead_28 : decode cX1_standsAhead 28 = .ok (.iload_n 3, 1) := by decide +kernel
theorem dX1_standsAhead_29 : decode cX1_standsAhead 29 = .ok (.if_icmp .ge 7, 3) := by decide +kernel
theorem dX1_standsAhead_32 : decode cX1_standsAhead 32 = .ok (.iconst 1, 1) := by decide +kernel
theorem dX1_standsAhead_33 : decode cX1_standsAhead 33 = .ok (.goto 4, 3) := by decide +kernel
theorem dX1_standsAhead_36 : decode cX1_standsAhead 36 = .ok (.iconst 0, 1) := by decide +kernel
theorem dX1_standsAhead_37 : decode cX1_standsAhead 37 = .ok (.ireturn, 1) := by decide +kernel
theorem dX1_takeOut_0 : decode cX1_takeOut 0 = .ok (.aload_n 0, 1) := by decide +kernel
theorem dX1_takeOut_1 : decode cX1_takeOut 1 = .ok (.iload_n 1, 1) := by decide +kernel
theorem dX1_takeOut_2 : decode cX1_takeOut 2 = .ok (.iload_n 2, 1) := by decide +kernel
theorem dX1_takeOut_3 : decode cX1_takeOut 3 = .ok (.invokevirtual 58, 3) := by decide +kernel
theorem dX1_takeOut_6 : decode cX1_takeOut 6 = .ok (.ifCond .ne 4, 3) := by decide +kernel
theorem dX1_takeOut_9 : decode cX1_takeOut 9 = .ok (.return_, 1) := by decide +kernel
theorem dX1_takeOut_10 : decode cX1_takeOut 10 = .ok (.aload_n 0, 1) := by decide +kernel
theorem dX1_takeOut_11 : decode cX1_takeOut 11 = .ok (.getfield 18, 3) := by decide +kernel
theorem dX1_takeOut_14 : decode cX1_takeOut 14 = .ok (.iload_n 1, 1) := by decide +kernel
theorem dX1_takeOut_15 : decode cX1_takeOut 15 = .ok (.invokestatic 39, 3) := by decide +kernel
theorem dX1_takeOut_18 : decode cX1_takeOut 18 = .ok (.istore_n 3, 1) := by decide +kernel
theorem dX1_takeOut_19 : decode cX1_takeOut 19 = .ok (.iload_n 1, 1) := by decide +kernel
theorem dX1_takeOut_20 : decode cX1_takeOut 20 = .ok (.bipush 40, 2) := by decide +kernel
theorem dX1_takeOut_22 : decode cX1_takeOut 22 = .ok (.imul, 1) := by decide +kernel
theorem dX1_takeOut_23 : decode cX1_takeOut 23 = .ok (.istore 4, 2) := by decide +kernel
theorem dX1_takeOut_25 : decode cX1_takeOut 25 = .ok (.iconst 0, 1) := by decide +kernel
theorem dX1_takeOut_26 : decode cX1_takeOut 26 = .ok (.istore 5, 2) := by decide +kernel
theorem dX1_takeOut_28 : decode cX1_takeOut 28 = .ok (.iload 5, 2) := by decide +kernel
theorem dX1_takeOut_30 : decode cX1_takeOut 30 = .ok (.iload_n 3, 1) := by decide +kernel
theorem dX1_takeOut_31 : decode cX1_takeOut 31 = .ok (.if_icmp .ge 25, 3) := by decide +kernel
theorem dX1_takeOut_34 : decode cX1_takeOut 34 = .ok (.aload_n 0, 1) := by decide +kernel
theorem dX1_takeOut_35 : decode cX1_takeOut 35 = .ok (.getfield 15, 3) := by decide +kernel
theorem dX1_takeOut_38 : decode cX1_takeOut 38 = .ok (.iload 4, 2) := by decide +kernel
theorem dX1_takeOut_40 : decode cX1_takeOut 40 = .ok (.iload 5, 2) := by decide +kernel
theorem dX1_takeOut_42 : decode cX1_takeOut 42 = .ok (.iadd, 1) := by decide +kernel
theorem dX1_takeOut_43 : decode cX1_takeOut 43 = .ok (.invokestatic 39, 3) := by decide +kernel
theorem dX1_takeOut_46 : decode cX1_takeOut 46 = .ok (.iload_n 2, 1) := by decide +kernel
theorem dX1_takeOut_47 : decode cX1_takeOut 47 = .ok (.if_icmp .eq 9, 3) := by decide +kernel
theorem dX1_takeOut_50 : decode cX1_takeOut 50 = .ok (.iinc 5 1, 3) := by decide +kernel
theorem dX1_takeOut_53 : decode cX1_takeOut 53 = .ok (.goto (-25), 3) := by decide +kernel
theorem dX1_takeOut_56 : decode cX1_takeOut 56 = .ok (.iload 5, 2) := by decide +kernel
theorem dX1_takeOut_58 : decode cX1_takeOut 58 = .ok (.iconst 1, 1) := by decide +kernel
theorem dX1_takeOut_59 : decode cX1_takeOut 59 = .ok (.iadd, 1) := by decide +kernel
theorem dX1_takeOut_60 : decode cX1_takeOut 60 = .ok (.istore 6, 2) := by decide +kernel
theorem dX1_takeOut_62 : decode cX1_takeOut 62 = .ok (.iload 6, 2) := by decide +kernel
theorem dX1_takeOut_64 : decode cX1_takeOut 64 = .ok (.iload_n 3, 1) := by decide +kernel
theorem dX1_takeOut_65 : decode cX1_takeOut 65 = .ok (.if_icmp .ge 35, 3) := by decide +kernel
theorem dX1_takeOut_68 : decode cX1_takeOut 68 = .ok (.aload_n 0, 1) := by decide +kernel
theorem dX1_takeOut_69 : decode cX1_takeOut 69 = .ok (.getfield 15, 3) := by decide +kernel
theorem dX1_takeOut_72 : decode cX1_takeOut 72 = .ok (.iload 4, 2) := by decide +kernel
theorem dX1_takeOut_74 : decode cX1_takeOut 74 = .ok (.iload 6, 2) := by decide +kernel
theorem dX1_takeOut_76 : decode cX1_takeOut 76 = .ok (.iadd, 1) := by decide +kernel
theorem dX1_takeOut_77 : decode cX1_takeOut 77 = .ok (.iconst 1, 1) := by decide +kernel
theorem dX1_takeOut_78 : decode cX1_takeOut 78 = .ok (.isub, 1) := by decide +kernel
theorem dX1_takeOut_79 : decode cX1_takeOut 79 = .ok (.aload_n 0, 1) := by decide +kernel
theorem dX1_takeOut_80 : decode cX1_takeOut 80 = .ok (.getfield 15, 3) := by decide +kernel
theorem dX1_takeOut_83 : decode cX1_takeOut 83 = .ok (.iload 4, 2) := by decide +kernel
theorem dX1_takeOut_85 : decode cX1_takeOut 85 = .ok (.iload 6, 2) := by decide +kernel
theorem dX1_takeOut_87 : decode cX1_takeOut 87 = .ok (.iadd, 1) := by decide +kernel
theorem dX1_takeOut_88 : decode cX1_takeOut 88 = .ok (.invokestatic 39, 3) := by decide +kernel
theorem dX1_takeOut_91 : decode cX1_takeOut 91 = .ok (.invokestatic 69, 3) := by decide +kernel
theorem dX1_takeOut_94 : decode cX1_takeOut 94 = .ok (.iinc 6 1, 3) := by decide +kernel
theorem dX1_takeOut_97 : decode cX1_takeOut 97 = .ok (.goto (-35), 3) := by decide +kernel
theorem dX1_takeOut_100 : decode cX1_takeOut 100 = .ok (.aload_n 0, 1) := by decide +kernel
theorem dX1_takeOut_101 : decode cX1_takeOut 101 = .ok (.getfield 18, 3) := by decide +kernel
theorem dX1_takeOut_104 : decode cX1_takeOut 104 = .ok (.iload_n 1, 1) := by decide +kernel
theorem dX1_takeOut_105 : decode cX1_takeOut 105 = .ok (.iload_n 3, 1) := by decide +kernel
theorem dX1_takeOut_106 : decode cX1_takeOut 106 = .ok (.iconst 1, 1) := by decide +kernel
theorem dX1_takeOut_107 : decode cX1_takeOut 107 = .ok (.isub, 1) := by decide +kernel
theorem dX1_takeOut_108 : decode cX1_takeOut 108 = .ok (.invokestatic 69, 3) := by decide +kernel
theorem dX1_takeOut_111 : decode cX1_takeOut 111 = .ok (.aload_n 0, 1) := by decide +kernel
theorem dX1_takeOut_112 : decode cX1_takeOut 112 = .ok (.getfield 9, 3) := by decide +kernel
theorem dX1_takeOut_115 : decode cX1_takeOut 115 = .ok (.iload_n 1, 1) := by decide +kernel
theorem dX1_takeOut_116 : decode cX1_takeOut 116 = .ok (.bipush 60, 2) := by decide +kernel
theorem dX1_takeOut_118 : decode cX1_takeOut 118 = .ok (.imul, 1) := by decide +kernel
theorem dX1_takeOut_119 : decode cX1_takeOut 119 = .ok (.iload_n 2, 1) := by decide +kernel
theorem dX1_takeOut_120 : decode cX1_takeOut 120 = .ok (.iadd, 1) := by decide +kernel
theorem dX1_takeOut_121 : decode cX1_takeOut 121 = .ok (.iconst 0, 1) := by decide +kernel
theorem dX1_takeOut_122 : decode cX1_takeOut 122 = .ok (.invokestatic 69, 3) := by decide +kernel
theorem dX1_takeOut_125 : decode cX1_takeOut 125 = .ok (.return_, 1) := by decide +kernel
theorem dX1_isDeleted_0 : decode cX1_isDeleted 0 = .ok (.aload_n 0, 1) := by decide +kernel
theorem dX1_isDeleted_1 : decode cX1_isDeleted 1 = .ok (.getfield 27, 3) := by decide +kernel
theorem dX1_isDeleted_4 : decode cX1_isDeleted 4 = .ok (.iload_n 1, 1) := by decide +kernel
theorem dX1_isDeleted_5 : decode cX1_isDeleted 5 = .ok (.lshr, 1) := by decide +kernel
theorem dX1_isDeleted_6 : decode cX1_isDeleted 6 = .ok (.lconst 1, 1) := by decide +kernel
theorem dX1_isDeleted_7 : decode cX1_isDeleted 7 = .ok (.land, 1) := by decide +kernel
theorem dX1_isDeleted_8 : decode cX1_isDeleted 8 = .ok (.lconst 1, 1) := by decide +kernel
theorem dX1_isDeleted_9 : decode cX1_isDeleted 9 = .ok (.lcmp, 1) := by decide +kernel
theorem dX1_isDeleted_10 : decode cX1_isDeleted 10 = .ok (.ifCond .ne 7, 3) := by decide +kernel
theorem dX1_isDeleted_13 : decode cX1_isDeleted 13 = .ok (.iconst 1, 1) := by decide +kernel
theorem dX1_isDeleted_14 : decode cX1_isDeleted 14 = .ok (.goto 4, 3) := by decide +kernel
theorem dX1_isDeleted_17 : decode cX1_isDeleted 17 = .ok (.iconst 0, 1) := by decide +kernel
theorem dX1_isDeleted_18 : decode cX1_isDeleted 18 = .ok (.ireturn, 1) := by decide +kernel
theorem dX1_deletedIn_0 : decode cX1_deletedIn 0 = .ok (.iconst 0, 1) := by decide +kernel
theorem dX1_deletedIn_1 : decode cX1_deletedIn 1 = .ok (.istore_n 2, 1) := by decide +kernel
theorem dX1_deletedIn_2 : decode cX1_deletedIn 2 = .ok (.aload_n 0, 1) := by decide +kernel
theorem dX1_deletedIn_3 : decode cX1_deletedIn 3 = .ok (.getfield 18, 3) := by decide +kernel
theorem dX1_deletedIn_6 : decode cX1_deletedIn 6 = .ok (.iload_n 1, 1) := by decide +kernel
theorem dX1_deletedIn_7 : decode cX1_deletedIn 7 = .ok (.invokestatic 39, 3) := by decide +kernel
theorem dX1_deletedIn_10 : decode cX1_deletedIn 10 = .ok (.istore_n 3, 1) := by decide +kernel
theorem dX1_deletedIn_11 : decode cX1_deletedIn 11 = .ok (.iconst 0, 1) := by decide +kernel
theorem dX1_deletedIn_12 : decode cX1_deletedIn 12 = .ok (.istore 4, 2) := by decide +kernel
theorem dX1_deletedIn_14 : decode cX1_deletedIn 14 = .ok (.iload 4, 2) := by decide +kernel
theorem dX1_deletedIn_16 : decode cX1_deletedIn 16 = .ok (.iload_n 3, 1) := by decide +kernel
theorem dX1_deletedIn_17 : decode cX1_deletedIn 17 = .ok (.if_icmp .ge 26, 3) := by decide +kernel
theorem dX1_deletedIn_20 : decode cX1_deletedIn 20 = .ok (.iload_n 2, 1) := by decide +kernel
theorem dX1_deletedIn_21 : decode cX1_deletedIn 21 = .ok (.aload_n 0, 1) := by decide +kernel
theorem dX1_deletedIn_22 : decode cX1_deletedIn 22 = .ok (.aload_n 0, 1) := by decide +kernel
theorem dX1_deletedIn_23 : decode cX1_deletedIn 23 = .ok (.iload_n 1, 1) := by decide +kernel
theorem dX1_deletedIn_24 : decode cX1_deletedIn 24 = .ok (.iload 4, 2) := by decide +kernel
theorem dX1_deletedIn_26 : decode cX1_deletedIn 26 = .ok (.invokevirtual 54, 3) := by decide +kernel
theorem dX1_deletedIn_29 : decode cX1_deletedIn 29 = .ok (.invokevirtual 76, 3) := by decide +kernel
theorem dX1_deletedIn_32 : decode cX1_deletedIn 32 = .ok (.invokestatic 47, 3) := by decide +kernel
theorem dX1_deletedIn_35 : decode cX1_deletedIn 35 = .ok (.iadd, 1) := by decide +kernel
theorem dX1_deletedIn_36 : decode cX1_deletedIn 36 = .ok (.istore_n 2, 1) := by decide +kernel
theorem dX1_deletedIn_37 : decode cX1_deletedIn 37 = .ok (.iinc 4 1, 3) := by decide +kernel
theorem dX1_deletedIn_40 : decode cX1_deletedIn 40 = .ok (.goto (-26), 3) := by decide +kernel
theorem dX1_deletedIn_43 : decode cX1_deletedIn 43 = .ok (.iload_n 2, 1) := by decide +kernel
theorem dX1_deletedIn_44 : decode cX1_deletedIn 44 = .ok (.ireturn, 1) := by decide +kernel
theorem dX1_listsWith_0 : decode cX1_listsWith 0 = .ok (.iconst 0, 1) := by decide +kernel
theorem dX1_listsWith_1 : decode cX1_listsWith 1 = .ok (.istore_n 2, 1) := by decide +kernel
theorem dX1_listsWith_2 : decode cX1_listsWith 2 = .ok (.iconst 0, 1) := by decide +kernel
theorem dX1_listsWith_3 : decode cX1_listsWith 3 = .ok (.istore_n 3, 1) := by decide +kernel
theorem dX1_listsWith_4 : decode cX1_listsWith 4 = .ok (.iload_n 3, 1) := by decide +kernel
theorem dX1_listsWith_5 : decode cX1_listsWith 5 = .ok (.bipush 6, 2) := by decide +kernel
theorem dX1_listsWith_7 : decode cX1_listsWith 7 = .ok (.if_icmp .ge 31, 3) := by decide +kernel
theorem dX1_listsWith_10 : decode cX1_listsWith 10 = .ok (.iload_n 2, 1) := by decide +kernel
theorem dX1_listsWith_11 : decode cX1_listsWith 11 = .ok (.aload_n 0, 1) := by decide +kernel
theorem dX1_listsWith_12 : decode cX1_listsWith 12 = .ok (.iload_n 3, 1) := by decide +kernel
theorem dX1_listsWith_13 : decode cX1_listsWith 13 = .ok (.iload_n 1, 1) := by decide +kernel
theorem dX1_listsWith_14 : decode cX1_listsWith 14 = .ok (.invokevirtual 58, 3) := by decide +kernel
theorem dX1_listsWith_17 : decode cX1_listsWith 17 = .ok (.ifCond .le 7, 3) := by decide +kernel
theorem dX1_listsWith_20 : decode cX1_listsWith 20 = .ok (.iconst 1, 1) := by decide +kernel
theorem dX1_listsWith_21 : decode cX1_listsWith 21 = .ok (.goto 4, 3) := by decide +kernel
theorem dX1_listsWith_24 : decode cX1_listsWith 24 = .ok (.iconst 0, 1) := by decide +kernel
theorem dX1_listsWith_25 : decode cX1_listsWith 25 = .ok (.invokestatic 47, 3) := by decide +kernel
theorem dX1_listsWith_28 : decode cX1_listsWith 28 = .ok (.iload_n 3, 1) := by decide +kernel
theorem dX1_listsWith_29 : decode cX1_listsWith 29 = .ok (.ishl, 1) := by decide +kernel
theorem dX1_listsWith_30 : decode cX1_listsWith 30 = .ok (.ior, 1) := by decide +kernel
theorem dX1_listsWith_31 : decode cX1_listsWith 31 = .ok (.istore_n 2, 1) := by decide +kernel
theorem dX1_listsWith_32 : decode cX1_listsWith 32 = .ok (.iinc 3 1, 3) := by decide +kernel
theorem dX1_listsWith_35 : decode cX1_listsWith 35 = .ok (.goto (-31), 3) := by decide +kernel
theorem dX1_listsWith_38 : decode cX1_listsWith 38 = .ok (.iload_n 2, 1) := by decide +kernel
theorem dX1_listsWith_39 : decode cX1_listsWith 39 = .ok (.ireturn, 1) := by decide +kernel
theorem dX1_valueOf_0 : decode cX1_valueOf 0 = .ok (.iconst 0, 1) := by decide +kernel
theorem dX1_valueOf_1 : decode cX1_valueOf 1 = .ok (.istore_n 2, 1) := by decide +kernel
theorem dX1_valueOf_2 : decode cX1_valueOf 2 = .ok (.iconst 0, 1) := by decide +kernel
theorem dX1_valueOf_3 : decode cX1_valueOf 3 = .ok (.istore_n 3, 1) := by decide +kernel
theorem dX1_valueOf_4 : decode cX1_valueOf 4 = .ok (.iload_n 3, 1) := by decide +kernel
theorem dX1_valueOf_5 : decode cX1_valueOf 5 = .ok (.bipush 6, 2) := by decide +kernel
theorem dX1_valueOf_7 : decode cX1_valueOf 7 = .ok (.if_icmp .ge 27, 3) := by decide +kernel
theorem dX1_valueOf_10 : decode cX1_valueOf 10 = .ok (.iload_n 2, 1) := by decide +kernel
theorem dX1_valueOf_11 : decode cX1_valueOf 11 = .ok (.aload_n 0, 1) := by decide +kernel
theorem dX1_valueOf_12 : decode cX1_valueOf 12 = .ok (.getfield 21, 3) := by decide +kernel
theorem dX1_valueOf_15 : decode cX1_valueOf 15 = .ok (.iload_n 3, 1) := by decide +kernel
theorem dX1_valueOf_16 : decode cX1_valueOf 16 = .ok (.invokestatic 39, 3) := by decide +kernel
theorem dX1_valueOf_19 : decode cX1_valueOf 19 = .ok (.aload_n 0, 1) := by decide +kernel
theorem dX1_valueOf_20 : decode cX1_valueOf 20 = .ok (.iload_n 3, 1) := by decide +kernel
theorem dX1_valueOf_21 : decode cX1_valueOf 21 = .ok (.iload_n 1, 1) := by decide +kernel
theorem dX1_valueOf_22 : decode cX1_valueOf 22 = .ok (.invokevirtual 58, 3) := by decide +kernel
theorem dX1_valueOf_25 : decode cX1_valueOf 25 = .ok (.imul, 1) := by decide +kernel
theorem dX1_valueOf_26 : decode cX1_valueOf 26 = .ok (.iadd, 1) := by decide +kernel
theorem dX1_valueOf_27 : decode cX1_valueOf 27 = .ok (.istore_n 2, 1) := by decide +kernel
theorem dX1_valueOf_28 : decode cX1_valueOf 28 = .ok (.iinc 3 1, 3) := by decide +kernel
theorem dX1_valueOf_31 : decode cX1_valueOf 31 = .ok (.goto (-27), 3) := by decide +kernel
theorem dX1_valueOf_34 : decode cX1_valueOf 34 = .ok (.iload_n 2, 1) := by decide +kernel
theorem dX1_valueOf_35 : decode cX1_valueOf 35 = .ok (.ireturn, 1) := by decide +kernel
theorem dX1_isAnswer_0 : decode cX1_isAnswer 0 = .ok (.aload_n 0, 1) := by decide +kernel
theorem dX1_isAnswer_1 : decode cX1_isAnswer 1 = .ok (.iload_n 1, 1) := by decide +kernel
theorem dX1_isAnswer_2 : decode cX1_isAnswer 2 = .ok (.invokevirtual 76, 3) := by decide +kernel
theorem dX1_isAnswer_5 : decode cX1_isAnswer 5 = .ok (.ifCond .ne 15, 3) := by decide +kernel
theorem dX1_isAnswer_8 : decode cX1_isAnswer 8 = .ok (.aload_n 0, 1) := by decide +kernel
theorem dX1_isAnswer_9 : decode cX1_isAnswer 9 = .ok (.iload_n 1, 1) := by decide +kernel
theorem dX1_isAnswer_10 : decode cX1_isAnswer 10 = .ok (.invokevirtual 79, 3) := by decide +kernel
theorem dX1_isAnswer_13 : decode cX1_isAnswer 13 = .ok (.ifCond .le 7, 3) := by decide +kernel
theorem dX1_isAnswer_16 : decode cX1_isAnswer 16 = .ok (.iconst 1, 1) := by decide +kernel
theorem dX1_isAnswer_17 : decode cX1_isAnswer 17 = .ok (.goto 4, 3) := by decide +kernel
theorem dX1_isAnswer_20 : decode cX1_isAnswer 20 = .ok (.iconst 0, 1) := by decide +kernel
theorem dX1_isAnswer_21 : decode cX1_isAnswer 21 = .ok (.ireturn, 1) := by decide +kernel
theorem dX1_wantedPlaceOf_0 : decode cX1_wantedPlaceOf 0 = .ok (.aload_n 0, 1) := by decide +kernel
theorem dX1_wantedPlaceOf_1 : decode cX1_wantedPlaceOf 1 = .ok (.iload_n 1, 1) := by decide +kernel
theorem dX1_wantedPlaceOf_2 : decode cX1_wantedPlaceOf 2 = .ok (.invokevirtual 83, 3) := by decide +kernel
theorem dX1_wantedPlaceOf_5 : decode cX1_wantedPlaceOf 5 = .ok (.ifCond .ne 6, 3) := by decide +kernel
theorem dX1_wantedPlaceOf_8 : decode cX1_wantedPlaceOf 8 = .ok (.bipush (-5), 2) := by decide +kernel
theorem dX1_wantedPlaceOf_10 : decode cX1_wantedPlaceOf 10 = .ok (.ireturn, 1) := by decide +kernel
theorem dX1_wantedPlaceOf_11 : decode cX1_wantedPlaceOf 11 = .ok (.aload_n 0, 1) := by decide +kernel
theorem dX1_wantedPlaceOf_12 : decode cX1_wantedPlaceOf 12 = .ok (.iload_n 1, 1) := by decide +kernel
theorem dX1_wantedPlaceOf_13 : decode cX1_wantedPlaceOf 13 = .ok (.invokevirtual 79, 3) := by decide +kernel
theorem dX1_wantedPlaceOf_16 : decode cX1_wantedPlaceOf 16 = .ok (.istore_n 2, 1) := by decide +kernel
theorem dX1_wantedPlaceOf_17 : decode cX1_wantedPlaceOf 17 = .ok (.iconst 0, 1) := by decide +kernel
theorem dX1_wantedPlaceOf_18 : decode cX1_wantedPlaceOf 18 = .ok (.istore_n 3, 1) := by decide +kernel
theorem dX1_wantedPlaceOf_19 : decode cX1_wantedPlaceOf 19 = .ok (.iconst 0, 1) := by decide +kernel
theorem dX1_wantedPlaceOf_20 : decode cX1_wantedPlaceOf 20 = .ok (.istore 4, 2) := by decide +kernel
theorem dX1_wantedPlaceOf_22 : decode cX1_wantedPlaceOf 22 = .ok (.iload 4, 2) := by decide +kernel
theorem dX1_wantedPlaceOf_24 : decode cX1_wantedPlaceOf 24 = .ok (.bipush 60, 2) := by decide +kernel
theorem dX1_wantedPlaceOf_26 : decode cX1_wantedPlaceOf 26 = .ok (.if_icmp .ge 51, 3) := by decide +kernel
theorem dX1_wantedPlaceOf_29 : decode cX1_wantedPlaceOf 29 = .ok (.aload_n 0, 1) := by decide +kernel
theorem dX1_wantedPlaceOf_30 : decode cX1_wantedPlaceOf 30 = .ok (.iload 4, 2) := by decide +kernel
theorem dX1_wantedPlaceOf_32 : decode cX1_wantedPlaceOf 32 = .ok (.invokevirtual 76, 3) := by decide +kernel
theorem dX1_wantedPlaceOf_35 : decode cX1_wantedPlaceOf 35 = .ok (.ifCond .eq 7, 3) := by decide +kernel
theorem dX1_wantedPlaceOf_38 : decode cX1_wantedPlaceOf 38 = .ok (.iconst 0, 1) := by decide +kernel
theorem dX1_wantedPlaceOf_39 : decode cX1_wantedPlaceOf 39 = .ok (.goto 9, 3) := by decide +kernel
theorem dX1_wantedPlaceOf_42 : decode cX1_wantedPlaceOf 42 = .ok (.aload_n 0, 1) := by decide +kernel
theorem dX1_wantedPlaceOf_43 : decode cX1_wantedPlaceOf 43 = .ok (.iload 4, 2) := by decide +kernel
theorem dX1_wantedPlaceOf_45 : decode cX1_wantedPlaceOf 45 = .ok (.invokevirtual 79, 3) := by decide +kernel
theorem dX1_wantedPlaceOf_48 : decode cX1_wantedPlaceOf 48 = .ok (.istore 5, 2) := by decide +kernel
theorem dX1_wantedPlaceOf_50 : decode cX1_wantedPlaceOf 50 = .ok (.iload 5, 2) := by decide +kernel
theorem dX1_wantedPlaceOf_52 : decode cX1_wantedPlaceOf 52 = .ok (.iload_n 2, 1) := by decide +kernel
theorem dX1_wantedPlaceOf_53 : decode cX1_wantedPlaceOf 53 = .ok (.if_icmp .gt 15, 3) := by decide +kernel
theorem dX1_wantedPlaceOf_56 : decode cX1_wantedPlaceOf 56 = .ok (.iload 5, 2) := by decide +kernel
theorem dX1_wantedPlaceOf_58 : decode cX1_wantedPlaceOf 58 = .ok (.iload_n 2, 1) := by decide +kernel
theorem dX1_wantedPlaceOf_59 : decode cX1_wantedPlaceOf 59 = .ok (.if_icmp .ne 12, 3) := by decide +kernel
theorem dX1_wantedPlaceOf_62 : decode cX1_wantedPlaceOf 62 = .ok (.iload 4, 2) := by decide +kernel
theorem dX1_wantedPlaceOf_64 : decode cX1_wantedPlaceOf 64 = .ok (.iload_n 1, 1) := by decide +kernel
theorem dX1_wantedPlaceOf_65 : decode cX1_wantedPlaceOf 65 = .ok (.if_icmp .ge 6, 3) := by decide +kernel
theorem dX1_wantedPlaceOf_68 : decode cX1_wantedPlaceOf 68 = .ok (.iinc 3 1, 3) := by decide +kernel
theorem dX1_wantedPlaceOf_71 : decode cX1_wantedPlaceOf 71 = .ok (.iinc 4 1, 3) := by decide +kernel
theorem dX1_wantedPlaceOf_74 : decode cX1_wantedPlaceOf 74 = .ok (.goto (-52), 3) := by decide +kernel
theorem dX1_wantedPlaceOf_77 : decode cX1_wantedPlaceOf 77 = .ok (.iload_n 3, 1) := by decide +kernel
theorem dX1_wantedPlaceOf_78 : decode cX1_wantedPlaceOf 78 = .ok (.aload_n 0, 1) := by decide +kernel
theorem dX1_wantedPlaceOf_79 : decode cX1_wantedPlaceOf 79 = .ok (.getfield 31, 3) := by decide +kernel
theorem dX1_wantedPlaceOf_82 : decode cX1_wantedPlaceOf 82 = .ok (.if_icmp .ge 7, 3) := by decide +kernel
theorem dX1_wantedPlaceOf_85 : decode cX1_wantedPlaceOf 85 = .ok (.iload_n 3, 1) := by decide +kernel
theorem dX1_wantedPlaceOf_86 : decode cX1_wantedPlaceOf 86 = .ok (.goto 5, 3) := by decide +kernel
theorem dX1_wantedPlaceOf_89 : decode cX1_wantedPlaceOf 89 = .ok (.bipush (-5), 2) := by decide +kernel
theorem dX1_wantedPlaceOf_91 : decode cX1_wantedPlaceOf 91 = .ok (.ireturn, 1) := by decide +kernel
theorem dX1_wantedAt_0 : decode cX1_wantedAt 0 = .ok (.iconst 0, 1) := by decide +kernel
theorem dX1_wantedAt_1 : decode cX1_wantedAt 1 = .ok (.istore_n 2, 1) := by decide +kernel
theorem dX1_wantedAt_2 : decode cX1_wantedAt 2 = .ok (.iload_n 2, 1) := by decide +kernel
theorem dX1_wantedAt_3 : decode cX1_wantedAt 3 = .ok (.bipush 60, 2) := by decide +kernel
theorem dX1_wantedAt_5 : decode cX1_wantedAt 5 = .ok (.if_icmp .ge 20, 3) := by decide +kernel
theorem dX1_wantedAt_8 : decode cX1_wantedAt 8 = .ok (.aload_n 0, 1) := by decide +kernel
theorem dX1_wantedAt_9 : decode cX1_wantedAt 9 = .ok (.iload_n 2, 1) := by decide +kernel
theorem dX1_wantedAt_10 : decode cX1_wantedAt 10 = .ok (.invokevirtual 86, 3) := by decide +kernel
theorem dX1_wantedAt_13 : decode cX1_wantedAt 13 = .ok (.iload_n 1, 1) := by decide +kernel
theorem dX1_wantedAt_14 : decode cX1_wantedAt 14 = .ok (.if_icmp .ne 5, 3) := by decide +kernel
theorem dX1_wantedAt_17 : decode cX1_wantedAt 17 = .ok (.iload_n 2, 1) := by decide +kernel
theorem dX1_wantedAt_18 : decode cX1_wantedAt 18 = .ok (.ireturn, 1) := by decide +kernel
theorem dX1_wantedAt_19 : decode cX1_wantedAt 19 = .ok (.iinc 2 1, 3) := by decide +kernel
theorem dX1_wantedAt_22 : decode cX1_wantedAt 22 = .ok (.goto (-20), 3) := by decide +kernel
theorem dX1_wantedAt_25 : decode cX1_wantedAt 25 = .ok (.bipush (-5), 2) := by decide +kernel
theorem dX1_wantedAt_27 : decode cX1_wantedAt 27 = .ok (.ireturn, 1) := by decide +kernel
theorem dX1_wantedSize_0 : decode cX1_wantedSize 0 = .ok (.iconst 0, 1) := by decide +kernel
theorem dX1_wantedSize_1 : decode cX1_wantedSize 1 = .ok (.istore_n 1, 1) := by decide +kernel
theorem dX1_wantedSize_2 : decode cX1_wantedSize 2 = .ok (.iconst 0, 1) := by decide +kernel
theorem dX1_wantedSize_3 : decode cX1_wantedSize 3 = .ok (.istore_n 2, 1) := by decide +kernel
theorem dX1_wantedSize_4 : decode cX1_wantedSize 4 = .ok (.iload_n 2, 1) := by decide +kernel
theorem dX1_wantedSize_5 : decode cX1_wantedSize 5 = .ok (.bipush 60, 2) := by decide +kernel
theorem dX1_wantedSize_7 : decode cX1_wantedSize 7 = .ok (.if_icmp .ge 20, 3) := by decide +kernel
theorem dX1_wantedSize_10 : decode cX1_wantedSize 10 = .ok (.iload_n 1, 1) := by decide +kernel
theorem dX1_wantedSize_11 : decode cX1_wantedSize 11 = .ok (.aload_n 0, 1) := by decide +kernel
theorem dX1_wantedSize_12 : decode cX1_wantedSize 12 = .ok (.iload_n 2, 1) := by decide +kernel
theorem dX1_wantedSize_13 : decode cX1_wantedSize 13 = .ok (.invokevirtual 83, 3) := by decide +kernel
theorem dX1_wantedSize_16 : decode cX1_wantedSize 16 = .ok (.invokestatic 47, 3) := by decide +kernel
theorem dX1_wantedSize_19 : decode cX1_wantedSize 19 = .ok (.iadd, 1) := by decide +kernel
theorem dX1_wantedSize_20 : decode cX1_wantedSize 20 = .ok (.istore_n 1, 1) := by decide +kernel
theorem dX1_wantedSize_21 : decode cX1_wantedSize 21 = .ok (.iinc 2 1, 3) := by decide +kernel
theorem dX1_wantedSize_24 : decode cX1_wantedSize 24 = .ok (.goto (-20), 3) := by decide +kernel
theorem dX1_wantedSize_27 : decode cX1_wantedSize 27 = .ok (.iload_n 1, 1) := by decide +kernel
theorem dX1_wantedSize_28 : decode cX1_wantedSize 28 = .ok (.aload_n 0, 1) := by decide +kernel
theorem dX1_wantedSize_29 : decode cX1_wantedSize 29 = .ok (.getfield 31, 3) := by decide +kernel
theorem dX1_wantedSize_32 : decode cX1_wantedSize 32 = .ok (.invokestatic 89, 3) := by decide +kernel
theorem dX1_wantedSize_35 : decode cX1_wantedSize 35 = .ok (.ireturn, 1) := by decide +kernel
theorem dX2_init_0 : decode cX2_init 0 = .ok (.aload_n 0, 1) := by decide +kernel
theorem dX2_init_1 : decode cX2_init 1 = .ok (.invokespecial 3, 3) := by decide +kernel
theorem dX2_init_4 : decode cX2_init 4 = .ok (.aload_n 0, 1) := by decide +kernel
theorem dX2_init_5 : decode cX2_init 5 = .ok (.iconst 0, 1) := by decide +kernel
theorem dX2_init_6 : decode cX2_init 6 = .ok (.putfield 9, 3) := by decide +kernel
theorem dX2_init_9 : decode cX2_init 9 = .ok (.aload_n 0, 1) := by decide +kernel
theorem dX2_init_10 : decode cX2_init 10 = .ok (.iconst 0, 1) := by decide +kernel
theorem dX2_init_11 : decode cX2_init 11 = .ok (.putfield 15, 3) := by decide +kernel
theorem dX2_init_14 : decode cX2_init 14 = .ok (.aload_n 0, 1) := by decide +kernel
theorem dX2_init_15 : decode cX2_init 15 = .ok (.iconst 0, 1) := by decide +kernel
theorem dX2_init_16 : decode cX2_init 16 = .ok (.putfield 19, 3) := by decide +kernel
theorem dX2_init_19 : decode cX2_init 19 = .ok (.aload_n 0, 1) := by decide +kernel
theorem dX2_init_20 : decode cX2_init 20 = .ok (.iconst 0, 1) := by decide +kernel
theorem dX2_init_21 : decode cX2_init 21 = .ok (.putfield 22, 3) := by decide +kernel
theorem dX2_init_24 : decode cX2_init 24 = .ok (.aload_n 0, 1) := by decide +kernel
theorem dX2_init_25 : decode cX2_init 25 = .ok (.iconst 0, 1) := by decide +kernel
theorem dX2_init_26 : decode cX2_init 26 = .ok (.putfield 25, 3) := by decide +kernel
theorem dX2_init_29 : decode cX2_init 29 = .ok (.aload_n 0, 1) := by decide +kernel
theorem dX2_init_30 : decode cX2_init 30 = .ok (.iconst 0, 1) := by decide +kernel
theorem dX2_init_31 : decode cX2_init 31 = .ok (.putfield 28, 3) := by decide +kernel
theorem dX2_init_34 : decode cX2_init 34 = .ok (.aload_n 0, 1) := by decide +kernel
theorem dX2_init_35 : decode cX2_init 35 = .ok (.iconst 0, 1) := by decide +kernel
theorem dX2_init_36 : decode cX2_init 36 = .ok (.putfield 31, 3) := by decide +kernel
theorem dX2_init_39 : decode cX2_init 39 = .ok (.aload_n 0, 1) := by decide +kernel
theorem dX2_init_40 : decode cX2_init 40 = .ok (.bipush 6, 2) := by decide +kernel
theorem dX2_init_42 : decode cX2_init 42 = .ok (.newarray .int, 2) := by decide +kernel
theorem dX2_init_44 : decode cX2_init 44 = .ok (.putfield 34, 3) := by decide +kernel
theorem dX2_init_47 : decode cX2_init 47 = .ok (.aload_n 0, 1) := by decide +kernel
theorem dX2_init_48 : decode cX2_init 48 = .ok (.bipush 6, 2) := by decide +kernel
theorem dX2_init_50 : decode cX2_init 50 = .ok (.newarray .int, 2) := by decide +kernel
theorem dX2_init_52 : decode cX2_init 52 = .ok (.putfield 38, 3) := by decide +kernel
theorem dX2_init_55 : decode cX2_init 55 = .ok (.aload_n 0, 1) := by decide +kernel
theorem dX2_init_56 : decode cX2_init 56 = .ok (.bipush 6, 2) := by decide +kernel
theorem dX2_init_58 : decode cX2_init 58 = .ok (.newarray .int, 2) := by decide +kernel
theorem dX2_init_60 : decode cX2_init 60 = .ok (.putfield 41, 3) := by decide +kernel
theorem dX2_init_63 : decode cX2_init 63 = .ok (.aload_n 0, 1) := by decide +kernel
theorem dX2_init_64 : decode cX2_init 64 = .ok (.bipush 6, 2) := by decide +kernel
theorem dX2_init_66 : decode cX2_init 66 = .ok (.newarray .int, 2) := by decide +kernel
theorem dX2_init_68 : decode cX2_init 68 = .ok (.putfield 44, 3) := by decide +kernel
theorem dX2_init_71 : decode cX2_init 71 = .ok (.aload_n 0, 1) := by decide +kernel
theorem dX2_init_72 : decode cX2_init 72 = .ok (.bipush 60, 2) := by decide +kernel
theorem dX2_init_74 : decode cX2_init 74 = .ok (.newarray .int, 2) := by decide +kernel
theorem dX2_init_76 : decode cX2_init 76 = .ok (.putfield 47, 3) := by decide +kernel
theorem dX2_init_79 : decode cX2_init 79 = .ok (.aload_n 0, 1) := by decide +kernel
theorem dX2_init_80 : decode cX2_init 80 = .ok (.bipush 60, 2) := by decide +kernel
theorem dX2_init_82 : decode cX2_init 82 = .ok (.newarray .int, 2) := by decide +kernel
theorem dX2_init_84 : decode cX2_init 84 = .ok (.putfield 50, 3) := by decide +kernel
theorem dX2_init_87 : decode cX2_init 87 = .ok (.aload_n 0, 1) := by decide +kernel
theorem dX2_init_88 : decode cX2_init 88 = .ok (.bipush 60, 2) := by decide +kernel
theorem dX2_init_90 : decode cX2_init 90 = .ok (.newarray .int, 2) := by decide +kernel
theorem dX2_init_92 : decode cX2_init 92 = .ok (.putfield 53, 3) := by decide +kernel
theorem dX2_init_95 : decode cX2_init 95 = .ok (.aload_n 0, 1) := by decide +kernel
theorem dX2_init_96 : decode cX2_init 96 = .ok (.bipush 60, 2) := by decide +kernel
theorem dX2_init_98 : decode cX2_init 98 = .ok (.newarray .int, 2) := by decide +kernel
theorem dX2_init_100 : decode cX2_init 100 = .ok (.putfield 56, 3) := by decide +kernel
theorem dX2_init_103 : decode cX2_init 103 = .ok (.aload_n 0, 1) := by decide +kernel
theorem dX2_init_104 : decode cX2_init 104 = .ok (.iconst 0, 1) := by decide +kernel
theorem dX2_init_105 : decode cX2_init 105 = .ok (.putfield 59, 3) := by decide +kernel
theorem dX2_init_108 : decode cX2_init 108 = .ok (.return_, 1) := by decide +kernel
theorem dX2_copyFrom_0 : decode cX2_copyFrom 0 = .ok (.aload_n 0, 1) := by decide +kernel
theorem dX2_copyFrom_1 : decode cX2_copyFrom 1 = .ok (.aload_n 1, 1) := by decide +kernel
theorem dX2_copyFrom_2 : decode cX2_copyFrom 2 = .ok (.getfield 9, 3) := by decide +kernel
theorem dX2_copyFrom_5 : decode cX2_copyFrom 5 = .ok (.putfield 9, 3) := by decide +kernel
theorem dX2_copyFrom_8 : decode cX2_copyFrom 8 = .ok (.aload_n 0, 1) := by decide +kernel
theorem dX2_copyFrom_9 : decode cX2_copyFrom 9 = .ok (.aload_n 1, 1) := by decide +kernel
theorem dX2_copyFrom_10 : decode cX2_copyFrom 10 = .ok (.getfield 15, 3) := by decide +kernel
theorem dX2_copyFrom_13 : decode cX2_copyFrom 13 = .ok (.putfield 15, 3) := by decide +kernel
theorem dX2_copyFrom_16 : decode cX2_copyFrom 16 = .ok (.aload_n 0, 1) := by decide +kernel
theorem dX2_copyFrom_17 : decode cX2_copyFrom 17 = .ok (.aload_n 1, 1) := by decide +kernel
theorem dX2_copyFrom_18 : decode cX2_copyFrom 18 = .ok (.getfield 19, 3) := by decide +kernel
theorem dX2_copyFrom_21 : decode cX2_copyFrom 21 = .ok (.putfield 19, 3) := by decide +kernel
theorem dX2_copyFrom_24 : decode cX2_copyFrom 24 = .ok (.aload_n 0, 1) := by decide +kernel
theorem dX2_copyFrom_25 : decode cX2_copyFrom 25 = .ok (.aload_n 1, 1) := by decide +kernel
theorem dX2_copyFrom_26 : decode cX2_copyFrom 26 = .ok (.getfield 22, 3) := by decide +kernel
theorem dX2_copyFrom_29 : decode cX2_copyFrom 29 = .ok (.putfield 22, 3) := by decide +kernel
theorem dX2_copyFrom_32 : decode cX2_copyFrom 32 = .ok (.aload_n 0, 1) := by decide +kernel
theorem dX2_copyFrom_33 : decode cX2_copyFrom 33 = .ok (.aload_n 1, 1) := by decide +kernel
theorem dX2_copyFrom_34 : decode cX2_copyFrom 34 = .ok (.getfield 25, 3) := by decide +kernel
theorem dX2_copyFrom_37 : decode cX2_copyFrom 37 = .ok (.putfield 25, 3) := by decide +kernel
theorem dX2_copyFrom_40 : decode cX2_copyFrom 40 = .ok (.aload_n 0, 1) := by decide +kernel
theorem dX2_copyFrom_41 : decode cX2_copyFrom 41 = .ok (.aload_n 1, 1) := by decide +kernel
theorem dX2_copyFrom_42 : decode cX2_copyFrom 42 = .ok (.getfield 28, 3) := by decide +kernel
theorem dX2_copyFrom_45 : decode cX2_copyFrom 45 = .ok (.putfield 28, 3) := by decide +kernel
theorem dX2_copyFrom_48 : decode cX2_copyFrom 48 = .ok (.aload_n 0, 1) := by decide +kernel
theorem dX2_copyFrom_49 : decode cX2_copyFrom 49 = .ok (.aload_n 1, 1) := by decide +kernel
theorem dX2_copyFrom_50 : decode cX2_copyFrom 50 = .ok (.getfield 31, 3) := by decide +kernel
theorem dX2_copyFrom_53 : decode cX2_copyFrom 53 = .ok (.putfield 31, 3) := by decide +kernel
theorem dX2_copyFrom_56 : decode cX2_copyFrom 56 = .ok (.aload_n 1, 1) := by decide +kernel
theorem dX2_copyFrom_57 : decode cX2_copyFrom 57 = .ok (.getfield 34, 3) := by decide +kernel
theorem dX2_copyFrom_60 : decode cX2_copyFrom 60 = .ok (.aload_n 0, 1) := by decide +kernel
theorem dX2_copyFrom_61 : decode cX2_copyFrom 61 = .ok (.getfield 34, 3) := by decide +kernel
theorem dX2_copyFrom_64 : decode cX2_copyFrom 64 = .ok (.invokestatic 62, 3) := by decide +kernel
theorem dX2_copyFrom_67 : decode cX2_copyFrom 67 = .ok (.aload_n 1, 1) := by decide +kernel
theorem dX2_copyFrom_68 : decode cX2_copyFrom 68 = .ok (.getfield 38, 3) := by decide +kernel
theorem dX2_copyFrom_71 : decode cX2_copyFrom 71 = .ok (.aload_n 0, 1) := by decide +kernel
theorem dX2_copyFrom_72 : decode cX2_copyFrom 72 = .ok (.getfield 38, 3) := by decide +kernel
theorem dX2_copyFrom_75 : decode cX2_copyFrom 75 = .ok (.invokestatic 62, 3) := by decide +kernel
theorem dX2_copyFrom_78 : decode cX2_copyFrom 78 = .ok (.aload_n 1, 1) := by decide +kernel
theorem dX2_copyFrom_79 : decode cX2_copyFrom 79 = .ok (.getfield 41, 3) := by decide +kernel
theorem dX2_copyFrom_82 : decode cX2_copyFrom 82 = .ok (.aload_n 0, 1) := by decide +kernel
theorem dX2_copyFrom_83 : decode cX2_copyFrom 83 = .ok (.getfield 41, 3) := by decide +kernel
theorem dX2_copyFrom_86 : decode cX2_copyFrom 86 = .ok (.invokestatic 62, 3) := by decide +kernel
theorem dX2_copyFrom_89 : decode cX2_copyFrom 89 = .ok (.aload_n 1, 1) := by decide +kernel
theorem dX2_copyFrom_90 : decode cX2_copyFrom 90 = .ok (.getfield 44, 3) := by decide +kernel
theorem dX2_copyFrom_93 : decode cX2_copyFrom 93 = .ok (.aload_n 0, 1) := by decide +kernel
theorem dX2_copyFrom_94 : decode cX2_copyFrom 94 = .ok (.getfield 44, 3) := by decide +kernel
theorem dX2_copyFrom_97 : decode cX2_copyFrom 97 = .ok (.invokestatic 62, 3) := by decide +kernel
theorem dX2_copyFrom_100 : decode cX2_copyFrom 100 = .ok (.aload_n 1, 1) := by decide +kernel
theorem dX2_copyFrom_101 : decode cX2_copyFrom 101 = .ok (.getfield 47, 3) := by decide +kernel
theorem dX2_copyFrom_104 : decode cX2_copyFrom 104 = .ok (.aload_n 0, 1) := by decide +kernel
theorem dX2_copyFrom_105 : decode cX2_copyFrom 105 = .ok (.getfield 47, 3) := by decide +kernel
theorem dX2_copyFrom_108 : decode cX2_copyFrom 108 = .ok (.invokestatic 62, 3) := by decide +kernel
theorem dX2_copyFrom_111 : decode cX2_copyFrom 111 = .ok (.aload_n 1, 1) := by decide +kernel
theorem dX2_copyFrom_112 : decode cX2_copyFrom 112 = .ok (.getfield 50, 3) := by decide +kernel
theorem dX2_copyFrom_115 : decode cX2_copyFrom 115 = .ok (.aload_n 0, 1) := by decide +kernel
theorem dX2_copyFrom_116 : decode cX2_copyFrom 116 = .ok (.getfield 50, 3) := by decide +kernel
theorem dX2_copyFrom_119 : decode cX2_copyFrom 119 = .ok (.invokestatic 62, 3) := by decide +kernel
theorem dX2_copyFrom_122 : decode cX2_copyFrom 122 = .ok (.aload_n 1, 1) := by decide +kernel
theorem dX2_copyFrom_123 : decode cX2_copyFrom 123 = .ok (.getfield 53, 3) := by decide +kernel
theorem dX2_copyFrom_126 : decode cX2_copyFrom 126 = .ok (.aload_n 0, 1) := by decide +kernel
theorem dX2_copyFrom_127 : decode cX2_copyFrom 127 = .ok (.getfield 53, 3) := by decide +kernel
theorem dX2_copyFrom_130 : decode cX2_copyFrom 130 = .ok (.invokestatic 62, 3) := by decide +kernel
theorem dX2_copyFrom_133 : decode cX2_copyFrom 133 = .ok (.aload_n 1, 1) := by decide +kernel
theorem dX2_copyFrom_134 : decode cX2_copyFrom 134 = .ok (.getfield 56, 3) := by decide +kernel
theorem dX2_copyFrom_137 : decode cX2_copyFrom 137 = .ok (.aload_n 0, 1) := by decide +kernel
theorem dX2_copyFrom_138 : decode cX2_copyFrom 138 = .ok (.getfield 56, 3) := by decide +kernel
theorem dX2_copyFrom_141 : decode cX2_copyFrom 141 = .ok (.invokestatic 62, 3) := by decide +kernel
theorem dX2_copyFrom_144 : decode cX2_copyFrom 144 = .ok (.aload_n 0, 1) := by decide +kernel
theorem dX2_copyFrom_145 : decode cX2_copyFrom 145 = .ok (.aload_n 1, 1) := by decide +kernel
theorem dX2_copyFrom_146 : decode cX2_copyFrom 146 = .ok (.getfield 59, 3) := by decide +kernel
theorem dX2_copyFrom_149 : decode cX2_copyFrom 149 = .ok (.putfield 59, 3) := by decide +kernel
theorem dX2_copyFrom_152 : decode cX2_copyFrom 152 = .ok (.return_, 1) := by decide +kernel
theorem dX2_start_0 : decode cX2_start 0 = .ok (.aload_n 0, 1) := by decide +kernel
theorem dX2_start_1 : decode cX2_start 1 = .ok (.iconst 1, 1) := by decide +kernel
theorem dX2_start_2 : decode cX2_start 2 = .ok (.putfield 9, 3) := by decide +kernel
theorem dX2_start_5 : decode cX2_start 5 = .ok (.aload_n 0, 1) := by decide +kernel
theorem dX2_start_6 : decode cX2_start 6 = .ok (.iload_n 2, 1) := by decide +kernel
theorem dX2_start_7 : decode cX2_start 7 = .ok (.putfield 15, 3) := by decide +kernel
theorem dX2_start_10 : decode cX2_start 10 = .ok (.aload_n 0, 1) := by decide +kernel
theorem dX2_start_11 : decode cX2_start 11 = .ok (.iload_n 3, 1) := by decide +kernel
theorem dX2_start_12 : decode cX2_start 12 = .ok (.putfield 19, 3) := by decide +kernel
theorem dX2_start_15 : decode cX2_start 15 = .ok (.aload_n 0, 1) := by decide +kernel
theorem dX2_start_16 : decode cX2_start 16 = .ok (.iconst 5, 1) := by decide +kernel
theorem dX2_start_17 : decode cX2_start 17 = .ok (.putfield 22, 3) := by decide +kernel
theorem dX2_start_20 : decode cX2_start 20 = .ok (.aload_n 0, 1) := by decide +kernel
theorem dX2_start_21 : decode cX2_start 21 = .ok (.iconst 0, 1) := by decide +kernel
theorem dX2_start_22 : decode cX2_start 22 = .ok (.putfield 25, 3) := by decide +kernel
theorem dX2_start_25 : decode cX2_start 25 = .ok (.aload_n 0, 1) := by decide +kernel
theorem dX2_start_26 : decode cX2_start 26 = .ok (.iconst 0, 1) := by decide +kernel
theorem dX2_start_27 : decode cX2_start 27 = .ok (.putfield 28, 3) := by decide +kernel
theorem dX2_start_30 : decode cX2_start 30 = .ok (.aload_n 0, 1) := by decide +kernel
theorem dX2_start_31 : decode cX2_start 31 = .ok (.iconst 0, 1) := by decide +kernel
theorem dX2_start_32 : decode cX2_start 32 = .ok (.putfield 31, 3) := by decide +kernel
theorem dX2_start_35 : decode cX2_start 35 = .ok (.aload_n 0, 1) := by decide +kernel
theorem dX2_start_36 : decode cX2_start 36 = .ok (.iconst 0, 1) := by decide +kernel
theorem dX2_start_37 : decode cX2_start 37 = .ok (.putfield 59, 3) := by decide +kernel
theorem dX2_start_40 : decode cX2_start 40 = .ok (.aload_n 0, 1) := by decide +kernel
theorem dX2_start_41 : decode cX2_start 41 = .ok (.getfield 34, 3) := by decide +kernel
theorem dX2_start_44 : decode cX2_start 44 = .ok (.iconst 0, 1) := by decide +kernel
theorem dX2_start_45 : decode cX2_start 45 = .ok (.invokestatic 66, 3) := by decide +kernel
theorem dX2_start_48 : decode cX2_start 48 = .ok (.aload_n 0, 1) := by decide +kernel
theorem dX2_start_49 : decode cX2_start 49 = .ok (.getfield 38, 3) := by decide +kernel
theorem dX2_start_52 : decode cX2_start 52 = .ok (.iconst 0, 1) := by decide +kernel
theorem dX2_start_53 : decode cX2_start 53 = .ok (.invokestatic 66, 3) := by decide +kernel
theorem dX2_start_56 : decode cX2_start 56 = .ok (.aload_n 0, 1) := by decide +kernel
theorem dX2_start_57 : decode cX2_start 57 = .ok (.getfield 47, 3) := by decide +kernel
theorem dX2_start_60 : decode cX2_start 60 = .ok (.iconst 0, 1) := by decide +kernel
theorem dX2_start_61 : decode cX2_start 61 = .ok (.invokestatic 66, 3) := by decide +kernel
theorem dX2_start_64 : decode cX2_start 64 = .ok (.aload_n 0, 1) := by decide +kernel
theorem dX2_start_65 : decode cX2_start 65 = .ok (.getfield 50, 3) := by decide +kernel
theorem dX2_start_68 : decode cX2_start 68 = .ok (.iconst 0, 1) := by decide +kernel
theorem dX2_start_69 : decode cX2_start 69 = .ok (.invokestatic 66, 3) := by decide +kernel
theorem dX2_start_72 : decode cX2_start 72 = .ok (.iconst 0, 1) := by decide +kernel
theorem dX2_start_73 : decode cX2_start 73 = .ok (.istore 4, 2) := by decide +kernel
theorem dX2_start_75 : decode cX2_start 75 = .ok (.iload 4, 2) := by decide +kernel
theorem dX2_start_77 : decode cX2_start 77 = .ok (.bipush 6, 2) := by decide +kernel
theorem dX2_start_79 : decode cX2_start 79 = .ok (.if_icmp .ge 16, 3) := by decide +kernel
theorem dX2_start_82 : decode cX2_start 82 = .ok (.aload_n 0, 1) := by decide +kernel
theorem dX2_start_83 : decode cX2_start 83 = .ok (.aload_n 1, 1) := by decide +kernel
theorem dX2_start_84 : decode cX2_start 84 = .ok (.iload 4, 2) := by decide +kernel
theorem dX2_start_86 : decode cX2_start 86 = .ok (.invokevirtual 72, 3) := by decide +kernel
theorem dX2_start_89 : decode cX2_start 89 = .ok (.iinc 4 1, 3) := by decide +kernel
theorem dX2_start_92 : decode cX2_start 92 = .ok (.goto (-17), 3) := by decide +kernel
theorem dX2_start_95 : decode cX2_start 95 = .ok (.return_, 1) := by decide +kernel
theorem dX2_findBounds_0 : decode cX2_findBounds 0 = .ok (.aload_n 1, 1) := by decide +kernel
theorem dX2_findBounds_1 : decode cX2_findBounds 1 = .ok (.iload_n 2, 1) := by decide +kernel
theorem dX2_findBounds_2 : decode cX2_findBounds 2 = .ok (.aload_n 0, 1) := by decide +kernel
theorem dX2_findBounds_3 : decode cX2_findBounds 3 = .ok (.getfield 34, 3) := by decide +kernel
theorem dX2_findBounds_6 : decode cX2_findBounds 6 = .ok (.iload_n 2, 1) := by decide +kernel
theorem dX2_findBounds_7 : decode cX2_findBounds 7 = .ok (.invokestatic 76, 3) := by decide +kernel
theorem dX2_findBounds_10 : decode cX2_findBounds 10 = .ok (.invokevirtual 80, 3) := by decide +kernel
theorem dX2_findBounds_13 : decode cX2_findBounds 13 = .ok (.istore_n 3, 1) := by decide +kernel
theorem dX2_findBounds_14 : decode cX2_findBounds 14 = .ok (.aload_n 0, 1) := by decide +kernel
theorem dX2_findBounds_15 : decode cX2_findBounds 15 = .ok (.iload_n 2, 1) := by decide +kernel
theorem dX2_findBounds_16 : decode cX2_findBounds 16 = .ok (.invokevirtual 86, 3) := by decide +kernel
theorem dX2_findBounds_19 : decode cX2_findBounds 19 = .ok (.ifCond .eq 7, 3) := by decide +kernel
theorem dX2_findBounds_22 : decode cX2_findBounds 22 = .ok (.iconst 0, 1) := by decide +kernel
theorem dX2_findBounds_23 : decode cX2_findBounds 23 = .ok (.goto 11, 3) := by decide +kernel
theorem dX2_findBounds_26 : decode cX2_findBounds 26 = .ok (.aload_n 1, 1) := by decide +kernel
theorem dX2_findBounds_27 : decode cX2_findBounds 27 = .ok (.getfield 90, 3) := by decide +kernel
theorem dX2_findBounds_30 : decode cX2_findBounds 30 = .ok (.iload_n 2, 1) := by decide +kernel
theorem dX2_findBounds_31 : decode cX2_findBounds 31 = .ok (.invokestatic 76, 3) := by decide +kernel
theorem dX2_findBounds_34 : decode cX2_findBounds 34 = .ok (.istore 4, 2) := by decide +kernel
theorem dX2_findBounds_36 : decode cX2_findBounds 36 = .ok (.aload_n 0, 1) := by decide +kernel
theorem dX2_findBounds_37 : decode cX2_findBounds 37 = .ok (.getfield 41, 3) := by decide +kernel
theorem dX2_findBounds_40 : decode cX2_findBounds 40 = .ok (.iload_n 2, 1) := by decide +kernel
theorem dX2_findBounds_41 : decode cX2_findBounds 41 = .ok (.iload_n 3, 1) := by decide +kernel
theorem dX2_findBounds_42 : decode cX2_findBounds 42 = .ok (.invokestatic 93, 3) := by decide +kernel
theorem dX2_findBounds_45 : decode cX2_findBounds 45 = .ok (.aload_n 0, 1) := by decide +kernel
theorem dX2_findBounds_46 : decode cX2_findBounds 46 = .ok (.getfield 44, 3) := by decide +kernel
theorem dX2_findBounds_49 : decode cX2_findBounds 49 = .ok (.iload_n 2, 1) := by decide +kernel
theorem dX2_findBounds_50 : decode cX2_findBounds 50 = .ok (.iconst 0, 1) := by decide +kernel
theorem dX2_findBounds_51 : decode cX2_findBounds 51 = .ok (.iload_n 3, 1) := by decide +kernel
theorem dX2_findBounds_52 : decode cX2_findBounds 52 = .ok (.iload 4, 2) := by decide +kernel
theorem dX2_findBounds_54 : decode cX2_findBounds 54 = .ok (.isub, 1) := by decide +kernel
theorem dX2_findBounds_55 : decode cX2_findBounds 55 = .ok (.invokestatic 97, 3) := by decide +kernel
theorem dX2_findBounds_58 : decode cX2_findBounds 58 = .ok (.invokestatic 93, 3) := by decide +kernel
theorem dX2_findBounds_61 : decode cX2_findBounds 61 = .ok (.return_, 1) := by decide +kernel
theorem dX2_goOn_0 : decode cX2_goOn 0 = .ok (.iconst 0, 1) := by decide +kernel
theorem dX2_goOn_1 : decode cX2_goOn 1 = .ok (.istore_n 3, 1) := by decide +kernel
theorem dX2_goOn_2 : decode cX2_goOn 2 = .ok (.iload_n 3, 1) := by decide +kernel
theorem dX2_goOn_3 : decode cX2_goOn 3 = .ok (.iload_n 2, 1) := by decide +kernel
theorem dX2_goOn_4 : decode cX2_goOn 4 = .ok (.if_icmp .ge 27, 3) := by decide +kernel
theorem dX2_goOn_7 : decode cX2_goOn 7 = .ok (.aload_n 0, 1) := by decide +kernel
theorem dX2_goOn_8 : decode cX2_goOn 8 = .ok (.aload_n 1, 1) := by decide +kernel
theorem dX2_goOn_9 : decode cX2_goOn 9 = .ok (.invokevirtual 102, 3) := by decide +kernel
theorem dX2_goOn_12 : decode cX2_goOn 12 = .ok (.ifCond .ne 19, 3) := by decide +kernel
theorem dX2_goOn_15 : decode cX2_goOn 15 = .ok (.aload_n 0, 1) := by decide +kernel
theorem dX2_goOn_16 : decode cX2_goOn 16 = .ok (.aload_n 1, 1) := by decide +kernel
theorem dX2_goOn_17 : decode cX2_goOn 17 = .ok (.aload_n 0, 1) := by decide +kernel
theorem dX2_goOn_18 : decode cX2_goOn 18 = .ok (.aload_n 1, 1) := by decide +kernel
theorem dX2_goOn_19 : decode cX2_goOn 19 = .ok (.invokevirtual 106, 3) := by decide +kernel
theorem dX2_goOn_22 : decode cX2_goOn 22 = .ok (.invokevirtual 110, 3) := by decide +kernel
theorem dX2_goOn_25 : decode cX2_goOn 25 = .ok (.iinc 3 1, 3) := by decide +kernel
theorem dX2_goOn_28 : decode cX2_goOn 28 = .ok (.goto (-26), 3) := by decide +kernel
theorem dX2_goOn_31 : decode cX2_goOn 31 = .ok (.iload_n 3, 1) := by decide +kernel
theorem dX2_goOn_32 : decode cX2_goOn 32 = .ok (.ireturn, 1) := by decide +kernel
theorem dX2_readEntry_0 : decode cX2_readEntry 0 = .ok (.aload_n 0, 1) := by decide +kernel
theorem dX2_readEntry_1 : decode cX2_readEntry 1 = .ok (.getfield 34, 3) := by decide +kernel
theorem dX2_readEntry_4 : decode cX2_readEntry 4 = .ok (.iload_n 2, 1) := by decide +kernel
theorem dX2_readEntry_5 : decode cX2_readEntry 5 = .ok (.invokestatic 76, 3) := by decide +kernel
theorem dX2_readEntry_8 : decode cX2_readEntry 8 = .ok (.istore_n 3, 1) := by decide +kernel
theorem dX2_readEntry_9 : decode cX2_readEntry 9 = .ok (.aload_n 1, 1) := by decide +kernel
theorem dX2_readEntry_10 : decode cX2_readEntry 10 = .ok (.iload_n 2, 1) := by decide +kernel
theorem dX2_readEntry_11 : decode cX2_readEntry 11 = .ok (.iload_n 3, 1) := by decide +kernel
theorem dX2_readEntry_12 : decode cX2_readEntry 12 = .ok (.invokevirtual 113, 3) := by decide +kernel
theorem dX2_readEntry_15 : decode cX2_readEntry 15 = .ok (.istore 4, 2) := by decide +kernel
theorem dX2_readEntry_17 : decode cX2_readEntry 17 = .ok (.aload_n 1, 1) := by decide +kernel
theorem dX2_readEntry_18 : decode cX2_readEntry 18 = .ok (.iload_n 2, 1) := by decide +kernel
theorem dX2_readEntry_19 : decode cX2_readEntry 19 = .ok (.iload 4, 2) := by decide +kernel
theorem dX2_readEntry_21 : decode cX2_readEntry 21 = .ok (.invokevirtual 116, 3) := by decide +kernel
theorem dX2_readEntry_24 : decode cX2_readEntry 24 = .ok (.aload_n 0, 1) := by decide +kernel
theorem dX2_readEntry_25 : decode cX2_readEntry 25 = .ok (.getfield 44, 3) := by decide +kernel
theorem dX2_readEntry_28 : decode cX2_readEntry 28 = .ok (.iload_n 2, 1) := by decide +kernel
theorem dX2_readEntry_29 : decode cX2_readEntry 29 = .ok (.invokestatic 76, 3) := by decide +kernel
theorem dX2_readEntry_32 : decode cX2_readEntry 32 = .ok (.if_icmp .le 15, 3) := by decide +kernel
theorem dX2_readEntry_35 : decode cX2_readEntry 35 = .ok (.aload_n 0, 1) := by decide +kernel
theorem dX2_readEntry_36 : decode cX2_readEntry 36 = .ok (.dup, 1) := by decide +kernel
theorem dX2_readEntry_37 : decode cX2_readEntry 37 = .ok (.getfield 31, 3) := by decide +kernel
theorem dX2_readEntry_40 : decode cX2_readEntry 40 = .ok (.iconst 1, 1) := by decide +kernel
theorem dX2_readEntry_41 : decode cX2_readEntry 41 = .ok (.iload_n 2, 1) := by decide +kernel
theorem dX2_readEntry_42 : decode cX2_readEntry 42 = .ok (.ishl, 1) := by decide +kernel
theorem dX2_readEntry_43 : decode cX2_readEntry 43 = .ok (.ior, 1) := by decide +kernel
theorem dX2_readEntry_44 : decode cX2_readEntry 44 = .ok (.putfield 31, 3) := by decide +kernel
theorem dX2_readEntry_47 : decode cX2_readEntry 47 = .ok (.aload_n 0, 1) := by decide +kernel
theorem dX2_readEntry_48 : decode cX2_readEntry 48 = .ok (.getfield 34, 3) := by decide +kernel
theorem dX2_readEntry_51 : decode cX2_readEntry 51 = .ok (.iload_n 2, 1) := by decide +kernel
theorem dX2_readEntry_52 : decode cX2_readEntry 52 = .ok (.iload_n 3, 1) := by decide +kernel
theorem dX2_readEntry_53 : decode cX2_readEntry 53 = .ok (.iconst 1, 1) := by decide +kernel
theorem dX2_readEntry_54 : decode cX2_readEntry 54 = .ok (.iadd, 1) := by decide +kernel
theorem dX2_readEntry_55 : decode cX2_readEntry 55 = .ok (.invokestatic 93, 3) := by decide +kernel
theorem dX2_readEntry_58 : decode cX2_readEntry 58 = .ok (.aload_n 0, 1) := by decide +kernel
theorem dX2_readEntry_59 : decode cX2_readEntry 59 = .ok (.aload_n 1, 1) := by decide +kernel
theorem dX2_readEntry_60 : decode cX2_readEntry 60 = .ok (.iload_n 2, 1) := by decide +kernel
theorem dX2_readEntry_61 : decode cX2_readEntry 61 = .ok (.invokevirtual 72, 3) := by decide +kernel
theorem dX2_readEntry_64 : decode cX2_readEntry 64 = .ok (.aload_n 1, 1) := by decide +kernel
theorem dX2_readEntry_65 : decode cX2_readEntry 65 = .ok (.iload 4, 2) := by decide +kernel
theorem dX2_readEntry_67 : decode cX2_readEntry 67 = .ok (.invokevirtual 119, 3) := by decide +kernel
theorem dX2_readEntry_70 : decode cX2_readEntry 70 = .ok (.ifCond .eq 16, 3) := by decide +kernel
theorem dX2_readEntry_73 : decode cX2_readEntry 73 = .ok (.aload_n 0, 1) := by decide +kernel
theorem dX2_readEntry_74 : decode cX2_readEntry 74 = .ok (.dup, 1) := by decide +kernel
theorem dX2_readEntry_75 : decode cX2_readEntry 75 = .ok (.getfield 28, 3) := by decide +kernel
theorem dX2_readEntry_78 : decode cX2_readEntry 78 = .ok (.iconst 1, 1) := by decide +kernel
theorem dX2_readEntry_79 : decode cX2_readEntry 79 = .ok (.iadd, 1) := by decide +kernel
theorem dX2_readEntry_80 : decode cX2_readEntry 80 = .ok (.putfield 28, 3) := by decide +kernel
theorem dX2_readEntry_83 : decode cX2_readEntry 83 = .ok (.goto 11, 3) := by decide +kernel
theorem dX2_readEntry_86 : decode cX2_readEntry 86 = .ok (.aload_n 0, 1) := by decide +kernel
theorem dX2_readEntry_87 : decode cX2_readEntry 87 = .ok (.aload_n 1, 1) := by decide +kernel
theorem dX2_readEntry_88 : decode cX2_readEntry 88 = .ok (.iload_n 2, 1) := by decide +kernel
theorem dX2_readEntry_89 : decode cX2_readEntry 89 = .ok (.iload 4, 2) := by decide +kernel
theorem dX2_readEntry_91 : decode cX2_readEntry 91 = .ok (.invokevirtual 122, 3) := by decide +kernel
theorem dX2_readEntry_94 : decode cX2_readEntry 94 = .ok (.aload_n 0, 1) := by decide +kernel
theorem dX2_readEntry_95 : decode cX2_readEntry 95 = .ok (.iload_n 2, 1) := by decide +kernel
theorem dX2_readEntry_96 : decode cX2_readEntry 96 = .ok (.putfield 22, 3) := by decide +kernel
theorem dX2_readEntry_99 : decode cX2_readEntry 99 = .ok (.aload_n 0, 1) := by decide +kernel
theorem dX2_readEntry_100 : decode cX2_readEntry 100 = .ok (.dup, 1) := by decide +kernel
theorem dX2_readEntry_101 : decode cX2_readEntry 101 = .ok (.getfield 25, 3) := by decide +kernel
theorem dX2_readEntry_104 : decode cX2_readEntry 104 = .ok (.iconst 1, 1) := by decide +kernel
theorem dX2_readEntry_105 : decode cX2_readEntry 105 = .ok (.iadd, 1) := by decide +kernel
theorem dX2_readEntry_106 : decode cX2_readEntry 106 = .ok (.putfield 25, 3) := by decide +kernel
theorem dX2_readEntry_109 : decode cX2_readEntry 109 = .ok (.return_, 1) := by decide +kernel
theorem dX2_see_0 : decode cX2_see 0 = .ok (.aload_n 0, 1) := by decide +kernel
theorem dX2_see_1 : decode cX2_see 1 = .ok (.iload_n 3, 1) := by decide +kernel
theorem dX2_see_2 : decode cX2_see 2 = .ok (.invokevirtual 126, 3) := by decide +kernel
theorem dX2_see_5 : decode cX2_see 5 = .ok (.ifCond .ne 7, 3) := by decide +kernel
theorem dX2_see_8 : decode cX2_see 8 = .ok (.iconst 1, 1) := by decide +kernel
theorem dX2_see_9 : decode cX2_see 9 = .ok (.goto 4, 3) := by decide +kernel
theorem dX2_see_12 : decode cX2_see 12 = .ok (.iconst 0, 1) := by decide +kernel
theorem dX2_see_13 : decode cX2_see 13 = .ok (.istore 4, 2) := by decide +kernel
theorem dX2_see_15 : decode cX2_see 15 = .ok (.iload 4, 2) := by decide +kernel
theorem dX2_see_17 : decode cX2_see 17 = .ok (.ifCond .eq 37, 3) := by decide +kernel
theorem dX2_see_20 : decode cX2_see 20 = .ok (.aload_n 0, 1) := by decide +kernel
theorem dX2_see_21 : decode cX2_see 21 = .ok (.getfield 53, 3) := by decide +kernel
theorem dX2_see_24 : decode cX2_see 24 = .ok (.iload_n 3, 1) := by decide +kernel
theorem dX2_see_25 : decode cX2_see 25 = .ok (.aload_n 0, 1) := by decide +kernel
theorem dX2_see_26 : decode cX2_see 26 = .ok (.getfield 25, 3) := by decide +kernel
theorem dX2_see_29 : decode cX2_see 29 = .ok (.invokestatic 93, 3) := by decide +kernel
theorem dX2_see_32 : decode cX2_see 32 = .ok (.aload_n 0, 1) := by decide +kernel
theorem dX2_see_33 : decode cX2_see 33 = .ok (.getfield 56, 3) := by decide +kernel
theorem dX2_see_36 : decode cX2_see 36 = .ok (.aload_n 0, 1) := by decide +kernel
theorem dX2_see_37 : decode cX2_see 37 = .ok (.getfield 59, 3) := by decide +kernel
theorem dX2_see_40 : decode cX2_see 40 = .ok (.iload_n 3, 1) := by decide +kernel
theorem dX2_see_41 : decode cX2_see 41 = .ok (.invokestatic 93, 3) := by decide +kernel
theorem dX2_see_44 : decode cX2_see 44 = .ok (.aload_n 0, 1) := by decide +kernel
theorem dX2_see_45 : decode cX2_see 45 = .ok (.dup, 1) := by decide +kernel
theorem dX2_see_46 : decode cX2_see 46 = .ok (.getfield 59, 3) := by decide +kernel
theorem dX2_see_49 : decode cX2_see 49 = .ok (.iconst 1, 1) := by decide +kernel
theorem dX2_see_50 : decode cX2_see 50 = .ok (.iadd, 1) := by decide +kernel
theorem dX2_see_51 : decode cX2_see 51 = .ok (.putfield 59, 3) := by decide +kernel
theorem dX2_see_54 : decode cX2_see 54 = .ok (.aload_n 0, 1) := by decide +kernel
theorem dX2_see_55 : decode cX2_see 55 = .ok (.aload_n 1, 1) := by decide +kernel
theorem dX2_see_56 : decode cX2_see 56 = .ok (.iload_n 2, 1) := by decide +kernel
theorem dX2_see_57 : decode cX2_see 57 = .ok (.iload_n 3, 1) := by decide +kernel
theorem dX2_see_58 : decode cX2_see 58 = .ok (.invokevirtual 129, 3) := by decide +kernel
theorem dX2_see_61 : decode cX2_see 61 = .ok (.iload 4, 2) := by decide +kernel
theorem dX2_see_63 : decode cX2_see 63 = .ok (.ifCond .eq 69, 3) := by decide +kernel
theorem dX2_see_66 : decode cX2_see 66 = .ok (.aload_n 0, 1) := by decide +kernel
theorem dX2_see_67 : decode cX2_see 67 = .ok (.getfield 19, 3) := by decide +kernel
theorem dX2_see_70 : decode cX2_see 70 = .ok (.ifCond .eq 62, 3) := by decide +kernel
theorem dX2_see_73 : decode cX2_see 73 = .ok (.iconst 0, 1) := by decide +kernel
theorem dX2_see_74 : decode cX2_see 74 = .ok (.istore 5, 2) := by decide +kernel
theorem dX2_see_76 : decode cX2_see 76 = .ok (.iload 5, 2) := by decide +kernel
theorem dX2_see_78 : decode cX2_see 78 = .ok (.bipush 6, 2) := by decide +kernel
theorem dX2_see_80 : decode cX2_see 80 = .ok (.if_icmp .ge 52, 3) := by decide +kernel
theorem dX2_see_83 : decode cX2_see 83 = .ok (.iload 5, 2) := by decide +kernel
theorem dX2_see_85 : decode cX2_see 85 = .ok (.iload_n 2, 1) := by decide +kernel
theorem dX2_see_86 : decode cX2_see 86 = .ok (.if_icmp .eq 40, 3) := by decide +kernel
theorem dX2_see_89 : decode cX2_see 89 = .ok (.aload_n 1, 1) := by decide +kernel
theorem dX2_see_90 : decode cX2_see 90 = .ok (.iload 5, 2) := by decide +kernel
theorem dX2_see_92 : decode cX2_see 92 = .ok (.invokevirtual 132, 3) := by decide +kernel
theorem dX2_see_95 : decode cX2_see 95 = .ok (.ifCond .eq 31, 3) := by decide +kernel
theorem dX2_see_98 : decode cX2_see 98 = .ok (.aload_n 0, 1) := by decide +kernel
theorem dX2_see_99 : decode cX2_see 99 = .ok (.getfield 38, 3) := by decide +kernel
theorem dX2_see_102 : decode cX2_see 102 = .ok (.iload 5, 2) := by decide +kernel
theorem dX2_see_104 : decode cX2_see 104 = .ok (.aload_n 0, 1) := by decide +kernel
theorem dX2_see_105 : decode cX2_see 105 = .ok (.getfield 38, 3) := by decide +kernel
theorem dX2_see_108 : decode cX2_see 108 = .ok (.iload 5, 2) := by decide +kernel
theorem dX2_see_110 : decode cX2_see 110 = .ok (.invokestatic 76, 3) := by decide +kernel
theorem dX2_see_113 : decode cX2_see 113 = .ok (.iconst 1, 1) := by decide +kernel
theorem dX2_see_114 : decode cX2_see 114 = .ok (.iadd, 1) := by decide +kernel
theorem dX2_see_115 : decode cX2_see 115 = .ok (.invokestatic 93, 3) := by decide +kernel
theorem dX2_see_118 : decode cX2_see 118 = .ok (.aload_n 0, 1) := by decide +kernel
theorem dX2_see_119 : decode cX2_see 119 = .ok (.aload_n 1, 1) := by decide +kernel
theorem dX2_see_120 : decode cX2_see 120 = .ok (.iload 5, 2) := by decide +kernel
theorem dX2_see_122 : decode cX2_see 122 = .ok (.iload_n 3, 1) := by decide +kernel
theorem dX2_see_123 : decode cX2_see 123 = .ok (.invokevirtual 129, 3) := by decide +kernel
theorem dX2_see_126 : decode cX2_see 126 = .ok (.iinc 5 1, 3) := by decide +kernel
theorem dX2_see_129 : decode cX2_see 129 = .ok (.goto (-53), 3) := by decide +kernel
theorem dX2_see_132 : decode cX2_see 132 = .ok (.aload_n 0, 1) := by decide +kernel
theorem dX2_see_133 : decode cX2_see 133 = .ok (.iload_n 3, 1) := by decide +kernel
theorem dX2_see_134 : decode cX2_see 134 = .ok (.invokevirtual 135, 3) := by decide +kernel
theorem dX2_see_137 : decode cX2_see 137 = .ok (.return_, 1) := by decide +kernel
theorem dX2_learn_0 : decode cX2_learn 0 = .ok (.aload_n 0, 1) := by decide +kernel
theorem dX2_learn_1 : decode cX2_learn 1 = .ok (.getfield 47, 3) := by decide +kernel
theorem dX2_learn_4 : decode cX2_learn 4 = .ok (.iload_n 3, 1) := by decide +kernel
theorem dX2_learn_5 : decode cX2_learn 5 = .ok (.invokestatic 76, 3) := by decide +kernel
theorem dX2_learn_8 : decode cX2_learn 8 = .ok (.istore 4, 2) := by decide +kernel
theorem dX2_learn_10 : decode cX2_learn 10 = .ok (.iload 4, 2) := by decide +kernel
theorem dX2_learn_12 : decode cX2_learn 12 = .ok (.iload_n 2, 1) := by decide +kernel
theorem dX2_learn_13 : decode cX2_learn 13 = .ok (.ishr, 1) := by decide +kernel
theorem dX2_learn_14 : decode cX2_learn 14 = .ok (.iconst 1, 1) := by decide +kernel
theorem dX2_learn_15 : decode cX2_learn 15 = .ok (.iand, 1) := by decide +kernel
theorem dX2_learn_16 : decode cX2_learn 16 = .ok (.ifCond .ne 50, 3) := by decide +kernel
theorem dX2_learn_19 : decode cX2_learn 19 = .ok (.aload_n 1, 1) := by decide +kernel
theorem dX2_learn_20 : decode cX2_learn 20 = .ok (.iload_n 2, 1) := by decide +kernel
theorem dX2_learn_21 : decode cX2_learn 21 = .ok (.invokevirtual 139, 3) := by decide +kernel
theorem dX2_learn_24 : decode cX2_learn 24 = .ok (.aload_n 1, 1) := by decide +kernel
theorem dX2_learn_25 : decode cX2_learn 25 = .ok (.iload_n 2, 1) := by decide +kernel
theorem dX2_learn_26 : decode cX2_learn 26 = .ok (.iload_n 3, 1) := by decide +kernel
theorem dX2_learn_27 : decode cX2_learn 27 = .ok (.invokevirtual 116, 3) := by decide +kernel
theorem dX2_learn_30 : decode cX2_learn 30 = .ok (.imul, 1) := by decide +kernel
theorem dX2_learn_31 : decode cX2_learn 31 = .ok (.istore 5, 2) := by decide +kernel
theorem dX2_learn_33 : decode cX2_learn 33 = .ok (.aload_n 0, 1) := by decide +kernel
theorem dX2_learn_34 : decode cX2_learn 34 = .ok (.getfield 47, 3) := by decide +kernel
theorem dX2_learn_37 : decode cX2_learn 37 = .ok (.iload_n 3, 1) := by decide +kernel
theorem dX2_learn_38 : decode cX2_learn 38 = .ok (.iload 4, 2) := by decide +kernel
theorem dX2_learn_40 : decode cX2_learn 40 = .ok (.iconst 1, 1) := by decide +kernel
theorem dX2_learn_41 : decode cX2_learn 41 = .ok (.iload_n 2, 1) := by decide +kernel
theorem dX2_learn_42 : decode cX2_learn 42 = .ok (.ishl, 1) := by decide +kernel
theorem dX2_learn_43 : decode cX2_learn 43 = .ok (.ior, 1) := by decide +kernel
theorem dX2_learn_44 : decode cX2_learn 44 = .ok (.invokestatic 93, 3) := by decide +kernel
theorem dX2_learn_47 : decode cX2_learn 47 = .ok (.aload_n 0, 1) := by decide +kernel
theorem dX2_learn_48 : decode cX2_learn 48 = .ok (.getfield 50, 3) := by decide +kernel
theorem dX2_learn_51 : decode cX2_learn 51 = .ok (.iload_n 3, 1) := by decide +kernel
theorem dX2_learn_52 : decode cX2_learn 52 = .ok (.aload_n 0, 1) := by decide +kernel
theorem dX2_learn_53 : decode cX2_learn 53 = .ok (.getfield 50, 3) := by decide +kernel
theorem dX2_learn_56 : decode cX2_learn 56 = .ok (.iload_n 3, 1) := by decide +kernel
theorem dX2_learn_57 : decode cX2_learn 57 = .ok (.invokestatic 76, 3) := by decide +kernel
theorem dX2_learn_60 : decode cX2_learn 60 = .ok (.iload 5, 2) := by decide +kernel
theorem dX2_learn_62 : decode cX2_learn 62 = .ok (.iadd, 1) := by decide +kernel
theorem dX2_learn_63 : decode cX2_learn 63 = .ok (.invokestatic 93, 3) := by decide +kernel
theorem dX2_learn_66 : decode cX2_learn 66 = .ok (.return_, 1) := by decide +kernel
theorem dX2_moveAhead_0 : decode cX2_moveAhead 0 = .ok (.aload_n 0, 1) := by decide +kernel
theorem dX2_moveAhead_1 : decode cX2_moveAhead 1 = .ok (.iload_n 1, 1) := by decide +kernel
theorem dX2_moveAhead_2 : decode cX2_moveAhead 2 = .ok (.invokevirtual 143, 3) := by decide +kernel
theorem dX2_moveAhead_5 : decode cX2_moveAhead 5 = .ok (.istore_n 2, 1) := by decide +kernel
theorem dX2_moveAhead_6 : decode cX2_moveAhead 6 = .ok (.iload_n 2, 1) := by decide +kernel
theorem dX2_moveAhead_7 : decode cX2_moveAhead 7 = .ok (.ifCond .le 56, 3) := by decide +kernel
theorem dX2_moveAhead_10 : decode cX2_moveAhead 10 = .ok (.aload_n 0, 1) := by decide +kernel
theorem dX2_moveAhead_11 : decode cX2_moveAhead 11 = .ok (.iload_n 1, 1) := by decide +kernel
theorem dX2_moveAhead_12 : decode cX2_moveAhead 12 = .ok (.aload_n 0, 1) := by decide +kernel
theorem dX2_moveAhead_13 : decode cX2_moveAhead 13 = .ok (.getfield 56, 3) := by decide +kernel
theorem dX2_moveAhead_16 : decode cX2_moveAhead 16 = .ok (.iload_n 2, 1) := by decide +kernel
theorem dX2_moveAhead_17 : decode cX2_moveAhead 17 = .ok (.iconst 1, 1) := by decide +kernel
theorem dX2_moveAhead_18 : decode cX2_moveAhead 18 = .ok (.isub, 1) := by decide +kernel
theorem dX2_moveAhead_19 : decode cX2_moveAhead 19 = .ok (.invokestatic 76, 3) := by decide +kernel
theorem dX2_moveAhead_22 : decode cX2_moveAhead 22 = .ok (.invokevirtual 146, 3) := by decide +kernel
theorem dX2_moveAhead_25 : decode cX2_moveAhead 25 = .ok (.ifCond .eq 38, 3) := by decide +kernel
theorem dX2_moveAhead_28 : decode cX2_moveAhead 28 = .ok (.aload_n 0, 1) := by decide +kernel
theorem dX2_moveAhead_29 : decode cX2_moveAhead 29 = .ok (.getfield 56, 3) := by decide +kernel
theorem dX2_moveAhead_32 : decode cX2_moveAhead 32 = .ok (.iload_n 2, 1) := by decide +kernel
theorem dX2_moveAhead_33 : decode cX2_moveAhead 33 = .ok (.aload_n 0, 1) := by decide +kernel
theorem dX2_moveAhead_34 : decode cX2_moveAhead 34 = .ok (.getfield 56, 3) := by decide +kernel
theorem dX2_moveAhead_37 : decode cX2_moveAhead 37 = .ok (.iload_n 2, 1) := by decide +kernel
theorem dX2_moveAhead_38 : decode cX2_moveAhead 38 = .ok (.iconst 1, 1) := by decide +kernel
theorem dX2_moveAhead_39 : decode cX2_moveAhead 39 = .ok (.isub, 1) := by decide +kernel
theorem dX2_moveAhead_40 : decode cX2_moveAhead 40 = .ok (.invokestatic 76, 3) := by decide +kernel
theorem dX2_moveAhead_43 : decode cX2_moveAhead 43 = .ok (.invokestatic 93, 3) := by decide +kernel
theorem dX2_moveAhead_46 : decode cX2_moveAhead 46 = .ok (.aload_n 0, 1) := by decide +kernel
theorem dX2_moveAhead_47 : decode cX2_moveAhead 47 = .ok (.getfield 56, 3) := by decide +kernel
theorem dX2_moveAhead_50 : decode cX2_moveAhead 50 = .ok (.iload_n 2, 1) := by decide +kernel
theorem dX2_moveAhead_51 : decode cX2_moveAhead 51 = .ok (.iconst 1, 1) := by decide +kernel
theorem dX2_moveAhead_52 : decode cX2_moveAhead 52 = .ok (.isub, 1) := by decide +kernel
theorem dX2_moveAhead_53 : decode cX2_moveAhead 53 = .ok (.iload_n 1, 1) := by decide +kernel
theorem dX2_moveAhead_54 : decode cX2_moveAhead 54 = .ok (.invokestatic 93, 3) := by decide +kernel
theorem dX2_moveAhead_57 : decode cX2_moveAhead 57 = .ok (.iinc 2 (-1), 3) := by decide +kernel
theorem dX2_moveAhead_60 : decode cX2_moveAhead 60 = .ok (.goto (-54), 3) := by decide +kernel
theorem dX2_moveAhead_63 : decode cX2_moveAhead 63 = .ok (.return_, 1) := by decide +kernel
theorem dX2_isAhead_0 : decode cX2_isAhead 0 = .ok (.aload_n 0, 1) := by decide +kernel
theorem dX2_isAhead_1 : decode cX2_isAhead 1 = .ok (.getfield 50, 3) := by decide +kernel
theorem dX2_isAhead_4 : decode cX2_isAhead 4 = .ok (.iload_n 1, 1) := by decide +kernel
theorem dX2_isAhead_5 : decode cX2_isAhead 5 = .ok (.invokestatic 76, 3) := by decide +kernel
theorem dX2_isAhead_8 : decode cX2_isAhead 8 = .ok (.istore_n 3, 1) := by decide +kernel
theorem dX2_isAhead_9 : decode cX2_isAhead 9 = .ok (.aload_n 0, 1) := by decide +kernel
theorem dX2_isAhead_10 : decode cX2_isAhead 10 = .ok (.getfield 50, 3) := by decide +kernel
theorem dX2_isAhead_13 : decode cX2_isAhead 13 = .ok (.iload_n 2, 1) := by decide +kernel
theorem dX2_isAhead_14 : decode cX2_isAhead 14 = .ok (.invokestatic 76, 3) := by decide +kernel
theorem dX2_isAhead_17 : decode cX2_isAhead 17 = .ok (.istore 4, 2) := by decide +kernel
theorem dX2_isAhead_19 : decode cX2_isAhead 19 = .ok (.iload_n 3, 1) := by decide +kernel
theorem dX2_isAhead_20 : decode cX2_isAhead 20 = .ok (.iload 4, 2) := by decide +kernel
theorem dX2_isAhead_22 : decode cX2_isAhead 22 = .ok (.if_icmp .gt 14, 3) := by decide +kernel
theorem dX2_isAhead_25 : decode cX2_isAhead 25 = .ok (.iload_n 3, 1) := by decide +kernel
theorem dX2_isAhead_26 : decode cX2_isAhead 26 = .ok (.iload 4, 2) := by decide +kernel
theorem dX2_isAhead_28 : decode cX2_isAhead 28 = .ok (.if_icmp .ne 12, 3) := by decide +kernel
theorem dX2_isAhead_31 : decode cX2_isAhead 31 = .ok (.iload_n 1, 1) := by decide +kernel
theorem dX2_isAhead_32 : decode cX2_isAhead 32 = .ok (.iload_n 2, 1) := by decide +kernel
theorem dX2_isAhead_33 : decode cX2_isAhead 33 = .ok (.if_icmp .ge 7, 3) := by decide +kernel
theorem dX2_isAhead_36 : decode cX2_isAhead 36 = .ok (.iconst 1, 1) := by decide +kernel
theorem dX2_isAhead_37 : decode cX2_isAhead 37 = .ok (.goto 4, 3) := by decide +kernel
theorem dX2_isAhead_40 : decode cX2_isAhead 40 = .ok (.iconst 0, 1) := by decide +kernel
theorem dX2_isAhead_41 : decode cX2_isAhead 41 = .ok (.ireturn, 1) := by decide +kernel
theorem dX2_nextList_0 : decode cX2_nextList 0 = .ok (.aload_n 0, 1) := by decide +kernel
theorem dX2_nextList_1 : decode cX2_nextList 1 = .ok (.getfield 15, 3) := by decide +kernel
theorem dX2_nextList_4 : decode cX2_nextList 4 = .ok (.lookupswitch 40 #[(0, 28), (1, 34)], 28) := by decide +kernel
theorem dX2_nextList_32 : decode cX2_nextList 32 = .ok (.aload_n 0, 1) := by decide +kernel
theorem dX2_nextList_33 : decode cX2_nextList 33 = .ok (.aload_n 1, 1) := by decide +kernel
theorem dX2_nextList_34 : decode cX2_nextList 34 = .ok (.invokevirtual 150, 3) := by decide +kernel
theorem dX2_nextList_37 : decode cX2_nextList 37 = .ok (.ireturn, 1) := by decide +kernel
theorem dX2_nextList_38 : decode cX2_nextList 38 = .ok (.aload_n 0, 1) := by decide +kernel
theorem dX2_nextList_39 : decode cX2_nextList 39 = .ok (.aload_n 1, 1) := by decide +kernel
theorem dX2_nextList_40 : decode cX2_nextList 40 = .ok (.invokevirtual 153, 3) := by decide +kernel
theorem dX2_nextList_43 : decode cX2_nextList 43 = .ok (.ireturn, 1) := by decide +kernel
theorem dX2_nextList_44 : decode cX2_nextList 44 = .ok (.aload_n 0, 1) := by decide +kernel
theorem dX2_nextList_45 : decode cX2_nextList 45 = .ok (.aload_n 1, 1) := by decide +kernel
theorem dX2_nextList_46 : decode cX2_nextList 46 = .ok (.invokevirtual 156, 3) := by decide +kernel
theorem dX2_nextList_49 : decode cX2_nextList 49 = .ok (.ireturn, 1) := by decide +kernel
theorem dX2_nextInTurn_0 : decode cX2_nextInTurn 0 = .ok (.iconst 1, 1) := by decide +kernel
theorem dX2_nextInTurn_1 : decode cX2_nextInTurn 1 = .ok (.istore_n 2, 1) := by decide +kernel
theorem dX2_nextInTurn_2 : decode cX2_nextInTurn 2 = .ok (.iload_n 2, 1) := by decide +kernel
theorem dX2_nextInTurn_3 : decode cX2_nextInTurn 3 = .ok (.bipush 6, 2) := by decide +kernel
theorem dX2_nextInTurn_5 : decode cX2_nextInTurn 5 = .ok (.if_icmp .gt 30, 3) := by decide +kernel
theorem dX2_nextInTurn_8 : decode cX2_nextInTurn 8 = .ok (.aload_n 0, 1) := by decide +kernel
theorem dX2_nextInTurn_9 : decode cX2_nextInTurn 9 = .ok (.getfield 22, 3) := by decide +kernel
theorem dX2_nextInTurn_12 : decode cX2_nextInTurn 12 = .ok (.iload_n 2, 1) := by decide +kernel
theorem dX2_nextInTurn_13 : decode cX2_nextInTurn 13 = .ok (.iadd, 1) := by decide +kernel
theorem dX2_nextInTurn_14 : decode cX2_nextInTurn 14 = .ok (.bipush 6, 2) := by decide +kernel
theorem dX2_nextInTurn_16 : decode cX2_nextInTurn 16 = .ok (.irem, 1) := by decide +kernel
theorem dX2_nextInTurn_17 : decode cX2_nextInTurn 17 = .ok (.istore_n 3, 1) := by decide +kernel
theorem dX2_nextInTurn_18 : decode cX2_nextInTurn 18 = .ok (.aload_n 0, 1) := by decide +kernel
theorem dX2_nextInTurn_19 : decode cX2_nextInTurn 19 = .ok (.aload_n 1, 1) := by decide +kernel
theorem dX2_nextInTurn_20 : decode cX2_nextInTurn 20 = .ok (.iload_n 3, 1) := by decide +kernel
theorem dX2_nextInTurn_21 : decode cX2_nextInTurn 21 = .ok (.invokevirtual 159, 3) := by decide +kernel
theorem dX2_nextInTurn_24 : decode cX2_nextInTurn 24 = .ok (.ifCond .eq 5, 3) := by decide +kernel
theorem dX2_nextInTurn_27 : decode cX2_nextInTurn 27 = .ok (.iload_n 3, 1) := by decide +kernel
theorem dX2_nextInTurn_28 : decode cX2_nextInTurn 28 = .ok (.ireturn, 1) := by decide +kernel
theorem dX2_nextInTurn_29 : decode cX2_nextInTurn 29 = .ok (.iinc 2 1, 3) := by decide +kernel
theorem dX2_nextInTurn_32 : decode cX2_nextInTurn 32 = .ok (.goto (-30), 3) := by decide +kernel
theorem dX2_nextInTurn_35 : decode cX2_nextInTurn 35 = .ok (.bipush (-5), 2) := by decide +kernel
theorem dX2_nextInTurn_37 : decode cX2_nextInTurn 37 = .ok (.ireturn, 1) := by decide +kernel
theorem dX2_nextByBounds_0 : decode cX2_nextByBounds 0 = .ok (.bipush (-5), 2) := by decide +kernel
theorem dX2_nextByBounds_2 : decode cX2_nextByBounds 2 = .ok (.istore_n 2, 1) := by decide +kernel
theorem dX2_nextByBounds_3 : decode cX2_nextByBounds 3 = .ok (.iconst (-1), 1) := by decide +kernel
theorem dX2_nextByBounds_4 : decode cX2_nextByBounds 4 = .ok (.istore_n 3, 1) := by decide +kernel
theorem dX2_nextByBounds_5 : decode cX2_nextByBounds 5 = .ok (.iconst 0, 1) := by decide +kernel
theorem dX2_nextByBounds_6 : decode cX2_nextByBounds 6 = .ok (.istore 4, 2) := by decide +kernel
theorem dX2_nextByBounds_8 : decode cX2_nextByBounds 8 = .ok (.iload 4, 2) := by decide +kernel
theorem dX2_nextByBounds_10 : decode cX2_nextByBounds 10 = .ok (.bipush 6, 2) := by decide +kernel
theorem dX2_nextByBounds_12 : decode cX2_nextByBounds 12 = .ok (.if_icmp .ge 49, 3) := by decide +kernel
theorem dX2_nextByBounds_15 : decode cX2_nextByBounds 15 = .ok (.aload_n 1, 1) := by decide +kernel
theorem dX2_nextByBounds_16 : decode cX2_nextByBounds 16 = .ok (.iload 4, 2) := by decide +kernel
theorem dX2_nextByBounds_18 : decode cX2_nextByBounds 18 = .ok (.invokevirtual 139, 3) := by decide +kernel
theorem dX2_nextByBounds_21 : decode cX2_nextByBounds 21 = .ok (.aload_n 0, 1) := by decide +kernel
theorem dX2_nextByBounds_22 : decode cX2_nextByBounds 22 = .ok (.getfield 44, 3) := by decide +kernel
theorem dX2_nextByBounds_25 : decode cX2_nextByBounds 25 = .ok (.iload 4, 2) := by decide +kernel
theorem dX2_nextByBounds_27 : decode cX2_nextByBounds 27 = .ok (.invokestatic 76, 3) := by decide +kernel
theorem dX2_nextByBounds_30 : decode cX2_nextByBounds 30 = .ok (.imul, 1) := by decide +kernel
theorem dX2_nextByBounds_31 : decode cX2_nextByBounds 31 = .ok (.istore 5, 2) := by decide +kernel
theorem dX2_nextByBounds_33 : decode cX2_nextByBounds 33 = .ok (.aload_n 0, 1) := by decide +kernel
theorem dX2_nextByBounds_34 : decode cX2_nextByBounds 34 = .ok (.aload_n 1, 1) := by decide +kernel
theorem dX2_nextByBounds_35 : decode cX2_nextByBounds 35 = .ok (.iload 4, 2) := by decide +kernel
theorem dX2_nextByBounds_37 : decode cX2_nextByBounds 37 = .ok (.invokevirtual 159, 3) := by decide +kernel
theorem dX2_nextByBounds_40 : decode cX2_nextByBounds 40 = .ok (.ifCond .eq 15, 3) := by decide +kernel
theorem dX2_nextByBounds_43 : decode cX2_nextByBounds 43 = .ok (.iload 5, 2) := by decide +kernel
theorem dX2_nextByBounds_45 : decode cX2_nextByBounds 45 = .ok (.iload_n 3, 1) := by decide +kernel
theorem dX2_nextByBounds_46 : decode cX2_nextByBounds 46 = .ok (.if_icmp .le 9, 3) := by decide +kernel
theorem dX2_nextByBounds_49 : decode cX2_nextByBounds 49 = .ok (.iload 4, 2) := by decide +kernel
theorem dX2_nextByBounds_51 : decode cX2_nextByBounds 51 = .ok (.istore_n 2, 1) := by decide +kernel
theorem dX2_nextByBounds_52 : decode cX2_nextByBounds 52 = .ok (.iload 5, 2) := by decide +kernel
theorem dX2_nextByBounds_54 : decode cX2_nextByBounds 54 = .ok (.istore_n 3, 1) := by decide +kernel
theorem dX2_nextByBounds_55 : decode cX2_nextByBounds 55 = .ok (.iinc 4 1, 3) := by decide +kernel
theorem dX2_nextByBounds_58 : decode cX2_nextByBounds 58 = .ok (.goto (-50), 3) := by decide +kernel
theorem dX2_nextByBounds_61 : decode cX2_nextByBounds 61 = .ok (.iload_n 2, 1) := by decide +kernel
theorem dX2_nextByBounds_62 : decode cX2_nextByBounds 62 = .ok (.ireturn, 1) := by decide +kernel
theorem dX2_nextByRest_0 : decode cX2_nextByRest 0 = .ok (.bipush (-5), 2) := by decide +kernel
theorem dX2_nextByRest_2 : decode cX2_nextByRest 2 = .ok (.istore_n 2, 1) := by decide +kernel
theorem dX2_nextByRest_3 : decode cX2_nextByRest 3 = .ok (.bipush 41, 2) := by decide +kernel
theorem dX2_nextByRest_5 : decode cX2_nextByRest 5 = .ok (.istore_n 3, 1) := by decide +kernel
theorem dX2_nextByRest_6 : decode cX2_nextByRest 6 = .ok (.iconst 0, 1) := by decide +kernel
theorem dX2_nextByRest_7 : decode cX2_nextByRest 7 = .ok (.istore 4, 2) := by decide +kernel
theorem dX2_nextByRest_9 : decode cX2_nextByRest 9 = .ok (.iload 4, 2) := by decide +kernel
theorem dX2_nextByRest_11 : decode cX2_nextByRest 11 = .ok (.bipush 6, 2) := by decide +kernel
theorem dX2_nextByRest_13 : decode cX2_nextByRest 13 = .ok (.if_icmp .ge 49, 3) := by decide +kernel
theorem dX2_nextByRest_16 : decode cX2_nextByRest 16 = .ok (.aload_n 1, 1) := by decide +kernel
theorem dX2_nextByRest_17 : decode cX2_nextByRest 17 = .ok (.iload 4, 2) := by decide +kernel
theorem dX2_nextByRest_19 : decode cX2_nextByRest 19 = .ok (.invokevirtual 163, 3) := by decide +kernel
theorem dX2_nextByRest_22 : decode cX2_nextByRest 22 = .ok (.aload_n 0, 1) := by decide +kernel
theorem dX2_nextByRest_23 : decode cX2_nextByRest 23 = .ok (.getfield 34, 3) := by decide +kernel
theorem dX2_nextByRest_26 : decode cX2_nextByRest 26 = .ok (.iload 4, 2) := by decide +kernel
theorem dX2_nextByRest_28 : decode cX2_nextByRest 28 = .ok (.invokestatic 76, 3) := by decide +kernel
theorem dX2_nextByRest_31 : decode cX2_nextByRest 31 = .ok (.isub, 1) := by decide +kernel
theorem dX2_nextByRest_32 : decode cX2_nextByRest 32 = .ok (.istore 5, 2) := by decide +kernel
theorem dX2_nextByRest_34 : decode cX2_nextByRest 34 = .ok (.aload_n 0, 1) := by decide +kernel
theorem dX2_nextByRest_35 : decode cX2_nextByRest 35 = .ok (.aload_n 1, 1) := by decide +kernel
theorem dX2_nextByRest_36 : decode cX2_nextByRest 36 = .ok (.iload 4, 2) := by decide +kernel
theorem dX2_nextByRest_38 : decode cX2_nextByRest 38 = .ok (.invokevirtual 159, 3) := by decide +kernel
theorem dX2_nextByRest_41 : decode cX2_nextByRest 41 = .ok (.ifCond .eq 15, 3) := by decide +kernel
theorem dX2_nextByRest_44 : decode cX2_nextByRest 44 = .ok (.iload 5, 2) := by decide +kernel
theorem dX2_nextByRest_46 : decode cX2_nextByRest 46 = .ok (.iload_n 3, 1) := by decide +kernel
theorem dX2_nextByRest_47 : decode cX2_nextByRest 47 = .ok (.if_icmp .ge 9, 3) := by decide +kernel
theorem dX2_nextByRest_50 : decode cX2_nextByRest 50 = .ok (.iload 4, 2) := by decide +kernel
theorem dX2_nextByRest_52 : decode cX2_nextByRest 52 = .ok (.istore_n 2, 1) := by decide +kernel
theorem dX2_nextByRest_53 : decode cX2_nextByRest 53 = .ok (.iload 5, 2) := by decide +kernel
theorem dX2_nextByRest_55 : decode cX2_nextByRest 55 = .ok (.istore_n 3, 1) := by decide +kernel
theorem dX2_nextByRest_56 : decode cX2_nextByRest 56 = .ok (.iinc 4 1, 3) := by decide +kernel
theorem dX2_nextByRest_59 : decode cX2_nextByRest 59 = .ok (.goto (-50), 3) := by decide +kernel
theorem dX2_nextByRest_62 : decode cX2_nextByRest 62 = .ok (.iload_n 2, 1) := by decide +kernel
theorem dX2_nextByRest_63 : decode cX2_nextByRest 63 = .ok (.ireturn, 1) := by decide +kernel
theorem dX2_hasRest_0 : decode cX2_hasRest 0 = .ok (.aload_n 1, 1) := by decide +kernel
theorem dX2_hasRest_1 : decode cX2_hasRest 1 = .ok (.iload_n 2, 1) := by decide +kernel
theorem dX2_hasRest_2 : decode cX2_hasRest 2 = .ok (.invokevirtual 132, 3) := by decide +kernel
theorem dX2_hasRest_5 : decode cX2_hasRest 5 = .ok (.ifCond .eq 23, 3) := by decide +kernel
theorem dX2_hasRest_8 : decode cX2_hasRest 8 = .ok (.aload_n 0, 1) := by decide +kernel
theorem dX2_hasRest_9 : decode cX2_hasRest 9 = .ok (.getfield 34, 3) := by decide +kernel
theorem dX2_hasRest_12 : decode cX2_hasRest 12 = .ok (.iload_n 2, 1) := by decide +kernel
theorem dX2_hasRest_13 : decode cX2_hasRest 13 = .ok (.invokestatic 76, 3) := by decide +kernel
theorem dX2_hasRest_16 : decode cX2_hasRest 16 = .ok (.aload_n 1, 1) := by decide +kernel
theorem dX2_hasRest_17 : decode cX2_hasRest 17 = .ok (.iload_n 2, 1) := by decide +kernel
theorem dX2_hasRest_18 : decode cX2_hasRest 18 = .ok (.invokevirtual 163, 3) := by decide +kernel
theorem dX2_hasRest_21 : decode cX2_hasRest 21 = .ok (.if_icmp .ge 7, 3) := by decide +kernel
theorem dX2_hasRest_24 : decode cX2_hasRest 24 = .ok (.iconst 1, 1) := by decide +kernel
theorem dX2_hasRest_25 : decode cX2_hasRest 25 = .ok (.goto 4, 3) := by decide +kernel
theorem dX2_hasRest_28 : decode cX2_hasRest 28 = .ok (.iconst 0, 1) := by decide +kernel
theorem dX2_hasRest_29 : decode cX2_hasRest 29 = .ok (.ireturn, 1) := by decide +kernel
theorem dX2_isOver_0 : decode cX2_isOver 0 = .ok (.aload_n 0, 1) := by decide +kernel
theorem dX2_isOver_1 : decode cX2_isOver 1 = .ok (.aload_n 1, 1) := by decide +kernel
theorem dX2_isOver_2 : decode cX2_isOver 2 = .ok (.invokevirtual 150, 3) := by decide +kernel
theorem dX2_isOver_5 : decode cX2_isOver 5 = .ok (.bipush (-5), 2) := by decide +kernel
theorem dX2_isOver_7 : decode cX2_isOver 7 = .ok (.if_icmp .ne 5, 3) := by decide +kernel
theorem dX2_isOver_10 : decode cX2_isOver 10 = .ok (.iconst 1, 1) := by decide +kernel
theorem dX2_isOver_11 : decode cX2_isOver 11 = .ok (.ireturn, 1) := by decide +kernel
theorem dX2_isOver_12 : decode cX2_isOver 12 = .ok (.aload_n 0, 1) := by decide +kernel
theorem dX2_isOver_13 : decode cX2_isOver 13 = .ok (.getfield 59, 3) := by decide +kernel
theorem dX2_isOver_16 : decode cX2_isOver 16 = .ok (.aload_n 1, 1) := by decide +kernel
theorem dX2_isOver_17 : decode cX2_isOver 17 = .ok (.getfield 166, 3) := by decide +kernel
theorem dX2_isOver_20 : decode cX2_isOver 20 = .ok (.if_icmp .ge 5, 3) := by decide +kernel
theorem dX2_isOver_23 : decode cX2_isOver 23 = .ok (.iconst 0, 1) := by decide +kernel
theorem dX2_isOver_24 : decode cX2_isOver 24 = .ok (.ireturn, 1) := by decide +kernel
theorem dX2_isOver_25 : decode cX2_isOver 25 = .ok (.aload_n 0, 1) := by decide +kernel
theorem dX2_isOver_26 : decode cX2_isOver 26 = .ok (.getfield 56, 3) := by decide +kernel
theorem dX2_isOver_29 : decode cX2_isOver 29 = .ok (.aload_n 1, 1) := by decide +kernel
theorem dX2_isOver_30 : decode cX2_isOver 30 = .ok (.getfield 166, 3) := by decide +kernel
theorem dX2_isOver_33 : decode cX2_isOver 33 = .ok (.iconst 1, 1) := by decide +kernel
theorem dX2_isOver_34 : decode cX2_isOver 34 = .ok (.isub, 1) := by decide +kernel
theorem dX2_isOver_35 : decode cX2_isOver 35 = .ok (.invokestatic 76, 3) := by decide +kernel
theorem dX2_isOver_38 : decode cX2_isOver 38 = .ok (.istore_n 2, 1) := by decide +kernel
theorem dX2_isOver_39 : decode cX2_isOver 39 = .ok (.aload_n 0, 1) := by decide +kernel
theorem dX2_isOver_40 : decode cX2_isOver 40 = .ok (.getfield 50, 3) := by decide +kernel
theorem dX2_isOver_43 : decode cX2_isOver 43 = .ok (.iload_n 2, 1) := by decide +kernel
theorem dX2_isOver_44 : decode cX2_isOver 44 = .ok (.invokestatic 76, 3) := by decide +kernel
theorem dX2_isOver_47 : decode cX2_isOver 47 = .ok (.istore_n 3, 1) := by decide +kernel
theorem dX2_isOver_48 : decode cX2_isOver 48 = .ok (.aload_n 0, 1) := by decide +kernel
theorem dX2_isOver_49 : decode cX2_isOver 49 = .ok (.aload_n 1, 1) := by decide +kernel
theorem dX2_isOver_50 : decode cX2_isOver 50 = .ok (.invokevirtual 169, 3) := by decide +kernel
theorem dX2_isOver_53 : decode cX2_isOver 53 = .ok (.iload_n 3, 1) := by decide +kernel
theorem dX2_isOver_54 : decode cX2_isOver 54 = .ok (.if_icmp .lt 5, 3) := by decide +kernel
theorem dX2_isOver_57 : decode cX2_isOver 57 = .ok (.iconst 0, 1) := by decide +kernel
theorem dX2_isOver_58 : decode cX2_isOver 58 = .ok (.ireturn, 1) := by decide +kernel
theorem dX2_isOver_59 : decode cX2_isOver 59 = .ok (.aload_n 1, 1) := by decide +kernel
theorem dX2_isOver_60 : decode cX2_isOver 60 = .ok (.getfield 166, 3) := by decide +kernel
theorem dX2_isOver_63 : decode cX2_isOver 63 = .ok (.istore 4, 2) := by decide +kernel
theorem dX2_isOver_65 : decode cX2_isOver 65 = .ok (.iload 4, 2) := by decide +kernel
theorem dX2_isOver_67 : decode cX2_isOver 67 = .ok (.aload_n 0, 1) := by decide +kernel
theorem dX2_isOver_68 : decode cX2_isOver 68 = .ok (.getfield 59, 3) := by decide +kernel
theorem dX2_isOver_71 : decode cX2_isOver 71 = .ok (.if_icmp .ge 49, 3) := by decide +kernel
theorem dX2_isOver_74 : decode cX2_isOver 74 = .ok (.aload_n 0, 1) := by decide +kernel
theorem dX2_isOver_75 : decode cX2_isOver 75 = .ok (.getfield 56, 3) := by decide +kernel
theorem dX2_isOver_78 : decode cX2_isOver 78 = .ok (.iload 4, 2) := by decide +kernel
theorem dX2_isOver_80 : decode cX2_isOver 80 = .ok (.invokestatic 76, 3) := by decide +kernel
theorem dX2_isOver_83 : decode cX2_isOver 83 = .ok (.istore 5, 2) := by decide +kernel
theorem dX2_isOver_85 : decode cX2_isOver 85 = .ok (.aload_n 0, 1) := by decide +kernel
theorem dX2_isOver_86 : decode cX2_isOver 86 = .ok (.aload_n 1, 1) := by decide +kernel
theorem dX2_isOver_87 : decode cX2_isOver 87 = .ok (.iload 5, 2) := by decide +kernel
theorem dX2_isOver_89 : decode cX2_isOver 89 = .ok (.invokevirtual 172, 3) := by decide +kernel
theorem dX2_isOver_92 : decode cX2_isOver 92 = .ok (.istore 6, 2) := by decide +kernel
theorem dX2_isOver_94 : decode cX2_isOver 94 = .ok (.iload 6, 2) := by decide +kernel
theorem dX2_isOver_96 : decode cX2_isOver 96 = .ok (.iload_n 3, 1) := by decide +kernel
theorem dX2_isOver_97 : decode cX2_isOver 97 = .ok (.if_icmp .gt 15, 3) := by decide +kernel
theorem dX2_isOver_100 : decode cX2_isOver 100 = .ok (.iload 6, 2) := by decide +kernel
theorem dX2_isOver_102 : decode cX2_isOver 102 = .ok (.iload_n 3, 1) := by decide +kernel
theorem dX2_isOver_103 : decode cX2_isOver 103 = .ok (.if_icmp .ne 11, 3) := by decide +kernel
theorem dX2_isOver_106 : decode cX2_isOver 106 = .ok (.iload 5, 2) := by decide +kernel
theorem dX2_isOver_108 : decode cX2_isOver 108 = .ok (.iload_n 2, 1) := by decide +kernel
theorem dX2_isOver_109 : decode cX2_isOver 109 = .ok (.if_icmp .ge 5, 3) := by decide +kernel
theorem dX2_isOver_112 : decode cX2_isOver 112 = .ok (.iconst 0, 1) := by decide +kernel
theorem dX2_isOver_113 : decode cX2_isOver 113 = .ok (.ireturn, 1) := by decide +kernel
theorem dX2_isOver_114 : decode cX2_isOver 114 = .ok (.iinc 4 1, 3) := by decide +kernel
theorem dX2_isOver_117 : decode cX2_isOver 117 = .ok (.goto (-52), 3) := by decide +kernel
theorem dX2_isOver_120 : decode cX2_isOver 120 = .ok (.iconst 1, 1) := by decide +kernel
theorem dX2_isOver_121 : decode cX2_isOver 121 = .ok (.ireturn, 1) := by decide +kernel
theorem dX2_highOf_0 : decode cX2_highOf 0 = .ok (.aload_n 0, 1) := by decide +kernel
theorem dX2_highOf_1 : decode cX2_highOf 1 = .ok (.getfield 50, 3) := by decide +kernel
theorem dX2_highOf_4 : decode cX2_highOf 4 = .ok (.iload_n 2, 1) := by decide +kernel
theorem dX2_highOf_5 : decode cX2_highOf 5 = .ok (.invokestatic 76, 3) := by decide +kernel
theorem dX2_highOf_8 : decode cX2_highOf 8 = .ok (.istore_n 3, 1) := by decide +kernel
theorem dX2_highOf_9 : decode cX2_highOf 9 = .ok (.aload_n 0, 1) := by decide +kernel
theorem dX2_highOf_10 : decode cX2_highOf 10 = .ok (.getfield 47, 3) := by decide +kernel
theorem dX2_highOf_13 : decode cX2_highOf 13 = .ok (.iload_n 2, 1) := by decide +kernel
theorem dX2_highOf_14 : decode cX2_highOf 14 = .ok (.invokestatic 76, 3) := by decide +kernel
theorem dX2_highOf_17 : decode cX2_highOf 17 = .ok (.istore 4, 2) := by decide +kernel
theorem dX2_highOf_19 : decode cX2_highOf 19 = .ok (.iconst 0, 1) := by decide +kernel
theorem dX2_highOf_20 : decode cX2_highOf 20 = .ok (.istore 5, 2) := by decide +kernel
theorem dX2_highOf_22 : decode cX2_highOf 22 = .ok (.iload 5, 2) := by decide +kernel
theorem dX2_highOf_24 : decode cX2_highOf 24 = .ok (.bipush 6, 2) := by decide +kernel
theorem dX2_highOf_26 : decode cX2_highOf 26 = .ok (.if_icmp .ge 38, 3) := by decide +kernel
theorem dX2_highOf_29 : decode cX2_highOf 29 = .ok (.iload 4, 2) := by decide +kernel
theorem dX2_highOf_31 : decode cX2_highOf 31 = .ok (.iload 5, 2) := by decide +kernel
theorem dX2_highOf_33 : decode cX2_highOf 33 = .ok (.ishr, 1) := by decide +kernel
theorem dX2_highOf_34 : decode cX2_highOf 34 = .ok (.iconst 1, 1) := by decide +kernel
theorem dX2_highOf_35 : decode cX2_highOf 35 = .ok (.iand, 1) := by decide +kernel
theorem dX2_highOf_36 : decode cX2_highOf 36 = .ok (.ifCond .ne 22, 3) := by decide +kernel
theorem dX2_highOf_39 : decode cX2_highOf 39 = .ok (.iload_n 3, 1) := by decide +kernel
theorem dX2_highOf_40 : decode cX2_highOf 40 = .ok (.aload_n 1, 1) := by decide +kernel
theorem dX2_highOf_41 : decode cX2_highOf 41 = .ok (.iload 5, 2) := by decide +kernel
theorem dX2_highOf_43 : decode cX2_highOf 43 = .ok (.invokevirtual 139, 3) := by decide +kernel
theorem dX2_highOf_46 : decode cX2_highOf 46 = .ok (.aload_n 0, 1) := by decide +kernel
theorem dX2_highOf_47 : decode cX2_highOf 47 = .ok (.getfield 44, 3) := by decide +kernel
theorem dX2_highOf_50 : decode cX2_highOf 50 = .ok (.iload 5, 2) := by decide +kernel
theorem dX2_highOf_52 : decode cX2_highOf 52 = .ok (.invokestatic 76, 3) := by decide +kernel
theorem dX2_highOf_55 : decode cX2_highOf 55 = .ok (.imul, 1) := by decide +kernel
theorem dX2_highOf_56 : decode cX2_highOf 56 = .ok (.iadd, 1) := by decide +kernel
theorem dX2_highOf_57 : decode cX2_highOf 57 = .ok (.istore_n 3, 1) := by decide +kernel
theorem dX2_highOf_58 : decode cX2_highOf 58 = .ok (.iinc 5 1, 3) := by decide +kernel
theorem dX2_highOf_61 : decode cX2_highOf 61 = .ok (.goto (-39), 3) := by decide +kernel
theorem dX2_highOf_64 : decode cX2_highOf 64 = .ok (.iload_n 3, 1) := by decide +kernel
theorem dX2_highOf_65 : decode cX2_highOf 65 = .ok (.ireturn, 1) := by decide +kernel
theorem dX2_weighedBounds_0 : decode cX2_weighedBounds 0 = .ok (.iconst 0, 1) := by decide +kernel
theorem dX2_weighedBounds_1 : decode cX2_weighedBounds 1 = .ok (.istore_n 2, 1) := by decide +kernel
theorem dX2_weighedBounds_2 : decode cX2_weighedBounds 2 = .ok (.iconst 0, 1) := by decide +kernel
theorem dX2_weighedBounds_3 : decode cX2_weighedBounds 3 = .ok (.istore_n 3, 1) := by decide +kernel
theorem dX2_weighedBounds_4 : decode cX2_weighedBounds 4 = .ok (.iload_n 3, 1) := by decide +kernel
theorem dX2_weighedBounds_5 : decode cX2_weighedBounds 5 = .ok (.bipush 6, 2) := by decide +kernel
theorem dX2_weighedBounds_7 : decode cX2_weighedBounds 7 = .ok (.if_icmp .ge 26, 3) := by decide +kernel
theorem dX2_weighedBounds_10 : decode cX2_weighedBounds 10 = .ok (.iload_n 2, 1) := by decide +kernel
theorem dX2_weighedBounds_11 : decode cX2_weighedBounds 11 = .ok (.aload_n 1, 1) := by decide +kernel
theorem dX2_weighedBounds_12 : decode cX2_weighedBounds 12 = .ok (.iload_n 3, 1) := by decide +kernel
theorem dX2_weighedBounds_13 : decode cX2_weighedBounds 13 = .ok (.invokevirtual 139, 3) := by decide +kernel
theorem dX2_weighedBounds_16 : decode cX2_weighedBounds 16 = .ok (.aload_n 0, 1) := by decide +kernel
theorem dX2_weighedBounds_17 : decode cX2_weighedBounds 17 = .ok (.getfield 44, 3) := by decide +kernel
theorem dX2_weighedBounds_20 : decode cX2_weighedBounds 20 = .ok (.iload_n 3, 1) := by decide +kernel
theorem dX2_weighedBounds_21 : decode cX2_weighedBounds 21 = .ok (.invokestatic 76, 3) := by decide +kernel
theorem dX2_weighedBounds_24 : decode cX2_weighedBounds 24 = .ok (.imul, 1) := by decide +kernel
theorem dX2_weighedBounds_25 : decode cX2_weighedBounds 25 = .ok (.iadd, 1) := by decide +kernel
theorem dX2_weighedBounds_26 : decode cX2_weighedBounds 26 = .ok (.istore_n 2, 1) := by decide +kernel
theorem dX2_weighedBounds_27 : decode cX2_weighedBounds 27 = .ok (.iinc 3 1, 3) := by decide +kernel
theorem dX2_weighedBounds_30 : decode cX2_weighedBounds 30 = .ok (.goto (-26), 3) := by decide +kernel
theorem dX2_weighedBounds_33 : decode cX2_weighedBounds 33 = .ok (.iload_n 2, 1) := by decide +kernel
theorem dX2_weighedBounds_34 : decode cX2_weighedBounds 34 = .ok (.ireturn, 1) := by decide +kernel
theorem dX2_isSeen_0 : decode cX2_isSeen 0 = .ok (.aload_n 0, 1) := by decide +kernel
theorem dX2_isSeen_1 : decode cX2_isSeen 1 = .ok (.getfield 47, 3) := by decide +kernel
theorem dX2_isSeen_4 : decode cX2_isSeen 4 = .ok (.iload_n 1, 1) := by decide +kernel
theorem dX2_isSeen_5 : decode cX2_isSeen 5 = .ok (.invokestatic 76, 3) := by decide +kernel
theorem dX2_isSeen_8 : decode cX2_isSeen 8 = .ok (.ifCond .eq 7, 3) := by decide +kernel
theorem dX2_isSeen_11 : decode cX2_isSeen 11 = .ok (.iconst 1, 1) := by decide +kernel
theorem dX2_isSeen_12 : decode cX2_isSeen 12 = .ok (.goto 4, 3) := by decide +kernel
theorem dX2_isSeen_15 : decode cX2_isSeen 15 = .ok (.iconst 0, 1) := by decide +kernel
theorem dX2_isSeen_16 : decode cX2_isSeen 16 = .ok (.ireturn, 1) := by decide +kernel
theorem dX2_knownListsOf_0 : decode cX2_knownListsOf 0 = .ok (.aload_n 0, 1) := by decide +kernel
theorem dX2_knownListsOf_1 : decode cX2_knownListsOf 1 = .ok (.getfield 47, 3) := by decide +kernel
theorem dX2_knownListsOf_4 : decode cX2_knownListsOf 4 = .ok (.iload_n 2, 1) := by decide +kernel
theorem dX2_knownListsOf_5 : decode cX2_knownListsOf 5 = .ok (.invokestatic 76, 3) := by decide +kernel
theorem dX2_knownListsOf_8 : decode cX2_knownListsOf 8 = .ok (.istore_n 3, 1) := by decide +kernel
theorem dX2_knownListsOf_9 : decode cX2_knownListsOf 9 = .ok (.iconst 0, 1) := by decide +kernel
theorem dX2_knownListsOf_10 : decode cX2_knownListsOf 10 = .ok (.istore 4, 2) := by decide +kernel
theorem dX2_knownListsOf_12 : decode cX2_knownListsOf 12 = .ok (.iload 4, 2) := by decide +kernel
theorem dX2_knownListsOf_14 : decode cX2_knownListsOf 14 = .ok (.bipush 6, 2) := by decide +kernel
theorem dX2_knownListsOf_16 : decode cX2_knownListsOf 16 = .ok (.if_icmp .ge 46, 3) := by decide +kernel
theorem dX2_knownListsOf_19 : decode cX2_knownListsOf 19 = .ok (.aload_n 1, 1) := by decide +kernel
theorem dX2_knownListsOf_20 : decode cX2_knownListsOf 20 = .ok (.iload 4, 2) := by decide +kernel
theorem dX2_knownListsOf_22 : decode cX2_knownListsOf 22 = .ok (.invokevirtual 132, 3) := by decide +kernel
theorem dX2_knownListsOf_25 : decode cX2_knownListsOf 25 = .ok (.ifCond .eq 17, 3) := by decide +kernel
theorem dX2_knownListsOf_28 : decode cX2_knownListsOf 28 = .ok (.aload_n 0, 1) := by decide +kernel
theorem dX2_knownListsOf_29 : decode cX2_knownListsOf 29 = .ok (.aload_n 1, 1) := by decide +kernel
theorem dX2_knownListsOf_30 : decode cX2_knownListsOf 30 = .ok (.iload 4, 2) := by decide +kernel
theorem dX2_knownListsOf_32 : decode cX2_knownListsOf 32 = .ok (.invokevirtual 159, 3) := by decide +kernel
theorem dX2_knownListsOf_35 : decode cX2_knownListsOf 35 = .ok (.ifCond .ne 7, 3) := by decide +kernel
theorem dX2_knownListsOf_38 : decode cX2_knownListsOf 38 = .ok (.iconst 1, 1) := by decide +kernel
theorem dX2_knownListsOf_39 : decode cX2_knownListsOf 39 = .ok (.goto 4, 3) := by decide +kernel
theorem dX2_knownListsOf_42 : decode cX2_knownListsOf 42 = .ok (.iconst 0, 1) := by decide +kernel
theorem dX2_knownListsOf_43 : decode cX2_knownListsOf 43 = .ok (.istore 5, 2) := by decide +kernel
theorem dX2_knownListsOf_45 : decode cX2_knownListsOf 45 = .ok (.iload_n 3, 1) := by decide +kernel
theorem dX2_knownListsOf_46 : decode cX2_knownListsOf 46 = .ok (.iload 5, 2) := by decide +kernel
theorem dX2_knownListsOf_48 : decode cX2_knownListsOf 48 = .ok (.invokestatic 176, 3) := by decide +kernel
theorem dX2_knownListsOf_51 : decode cX2_knownListsOf 51 = .ok (.iload 4, 2) := by decide +kernel
theorem dX2_knownListsOf_53 : decode cX2_knownListsOf 53 = .ok (.ishl, 1) := by decide +kernel
theorem dX2_knownListsOf_54 : decode cX2_knownListsOf 54 = .ok (.ior, 1) := by decide +kernel
theorem dX2_knownListsOf_55 : decode cX2_knownListsOf 55 = .ok (.istore_n 3, 1) := by decide +kernel
theorem dX2_knownListsOf_56 : decode cX2_knownListsOf 56 = .ok (.iinc 4 1, 3) := by decide +kernel
theorem dX2_knownListsOf_59 : decode cX2_knownListsOf 59 = .ok (.goto (-47), 3) := by decide +kernel
theorem dX2_knownListsOf_62 : decode cX2_knownListsOf 62 = .ok (.iload_n 3, 1) := by decide +kernel
theorem dX2_knownListsOf_63 : decode cX2_knownListsOf 63 = .ok (.ireturn, 1) := by decide +kernel
theorem dX2_frontPlaceOf_0 : decode cX2_frontPlaceOf 0 = .ok (.iconst 0, 1) := by decide +kernel
theorem dX2_frontPlaceOf_1 : decode cX2_frontPlaceOf 1 = .ok (.istore_n 2, 1) := by decide +kernel
theorem dX2_frontPlaceOf_2 : decode cX2_frontPlaceOf 2 = .ok (.iload_n 2, 1) := by decide +kernel
theorem dX2_frontPlaceOf_3 : decode cX2_frontPlaceOf 3 = .ok (.aload_n 0, 1) := by decide +kernel
theorem dX2_frontPlaceOf_4 : decode cX2_frontPlaceOf 4 = .ok (.getfield 59, 3) := by decide +kernel
theorem dX2_frontPlaceOf_7 : decode cX2_frontPlaceOf 7 = .ok (.if_icmp .ge 23, 3) := by decide +kernel
theorem dX2_frontPlaceOf_10 : decode cX2_frontPlaceOf 10 = .ok (.aload_n 0, 1) := by decide +kernel
theorem dX2_frontPlaceOf_11 : decode cX2_frontPlaceOf 11 = .ok (.getfield 56, 3) := by decide +kernel
theorem dX2_frontPlaceOf_14 : decode cX2_frontPlaceOf 14 = .ok (.iload_n 2, 1) := by decide +kernel
theorem dX2_frontPlaceOf_15 : decode cX2_frontPlaceOf 15 = .ok (.invokestatic 76, 3) := by decide +kernel
theorem dX2_frontPlaceOf_18 : decode cX2_frontPlaceOf 18 = .ok (.iload_n 1, 1) := by decide +kernel
theorem dX2_frontPlaceOf_19 : decode cX2_frontPlaceOf 19 = .ok (.if_icmp .ne 5, 3) := by decide +kernel
theorem dX2_frontPlaceOf_22 : decode cX2_frontPlaceOf 22 = .ok (.iload_n 2, 1) := by decide +kernel
theorem dX2_frontPlaceOf_23 : decode cX2_frontPlaceOf 23 = .ok (.ireturn, 1) := by decide +kernel
theorem dX2_frontPlaceOf_24 : decode cX2_frontPlaceOf 24 = .ok (.iinc 2 1, 3) := by decide +kernel
theorem dX2_frontPlaceOf_27 : decode cX2_frontPlaceOf 27 = .ok (.goto (-25), 3) := by decide +kernel
theorem dX2_frontPlaceOf_30 : decode cX2_frontPlaceOf 30 = .ok (.bipush (-5), 2) := by decide +kernel
theorem dX2_frontPlaceOf_32 : decode cX2_frontPlaceOf 32 = .ok (.ireturn, 1) := by decide +kernel
theorem dX2_toldSize_0 : decode cX2_toldSize 0 = .ok (.aload_n 0, 1) := by decide +kernel
theorem dX2_toldSize_1 : decode cX2_toldSize 1 = .ok (.getfield 59, 3) := by decide +kernel
theorem dX2_toldSize_4 : decode cX2_toldSize 4 = .ok (.aload_n 1, 1) := by decide +kernel
theorem dX2_toldSize_5 : decode cX2_toldSize 5 = .ok (.getfield 166, 3) := by decide +kernel
theorem dX2_toldSize_8 : decode cX2_toldSize 8 = .ok (.invokestatic 180, 3) := by decide +kernel
theorem dX2_toldSize_11 : decode cX2_toldSize 11 = .ok (.ireturn, 1) := by decide +kernel
theorem dX2_lowOfLastTold_0 : decode cX2_lowOfLastTold 0 = .ok (.aload_n 0, 1) := by decide +kernel
theorem dX2_lowOfLastTold_1 : decode cX2_lowOfLastTold 1 = .ok (.aload_n 1, 1) := by decide +kernel
theorem dX2_lowOfLastTold_2 : decode cX2_lowOfLastTold 2 = .ok (.invokevirtual 183, 3) := by decide +kernel
theorem dX2_lowOfLastTold_5 : decode cX2_lowOfLastTold 5 = .ok (.istore_n 2, 1) := by decide +kernel
theorem dX2_lowOfLastTold_6 : decode cX2_lowOfLastTold 6 = .ok (.iload_n 2, 1) := by decide +kernel
theorem dX2_lowOfLastTold_7 : decode cX2_lowOfLastTold 7 = .ok (.ifCond .ne 7, 3) := by decide +kernel
theorem dX2_lowOfLastTold_10 : decode cX2_lowOfLastTold 10 = .ok (.iconst 0, 1) := by decide +kernel
theorem dX2_lowOfLastTold_11 : decode cX2_lowOfLastTold 11 = .ok (.goto 20, 3) := by decide +kernel
theorem dX2_lowOfLastTold_14 : decode cX2_lowOfLastTold 14 = .ok (.aload_n 0, 1) := by decide +kernel
theorem dX2_lowOfLastTold_15 : decode cX2_lowOfLastTold 15 = .ok (.getfield 50, 3) := by decide +kernel
theorem dX2_lowOfLastTold_18 : decode cX2_lowOfLastTold 18 = .ok (.aload_n 0, 1) := by decide +kernel
theorem dX2_lowOfLastTold_19 : decode cX2_lowOfLastTold 19 = .ok (.getfield 56, 3) := by decide +kernel
theorem dX2_lowOfLastTold_22 : decode cX2_lowOfLastTold 22 = .ok (.iload_n 2, 1) := by decide +kernel
theorem dX2_lowOfLastTold_23 : decode cX2_lowOfLastTold 23 = .ok (.iconst 1, 1) := by decide +kernel
