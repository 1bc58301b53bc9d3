theorem dX6_bound_32 : decode cX6_bound 32 = .ok (.iadd, 1) := by decide +kernel
theorem dX6_bound_33 : decode cX6_bound 33 = .ok (.iaload, 1) := by decide +kernel
theorem dX6_bound_34 : decode cX6_bound 34 = .ok (.iadd, 1) := by decide +kernel
theorem dX6_bound_35 : decode cX6_bound 35 = .ok (.iaload, 1) := by decide +kernel
theorem dX6_bound_36 : decode cX6_bound 36 = .ok (.ireturn, 1) := by decide +kernel
theorem dX6_toldBound_0 : decode cX6_toldBound 0 = .ok (.aload_n 0, 1) := by decide +kernel
theorem dX6_toldBound_1 : decode cX6_toldBound 1 = .ok (.iload_n 1, 1) := by decide +kernel
theorem dX6_toldBound_2 : decode cX6_toldBound 2 = .ok (.invokevirtual 98, 3) := by decide +kernel
theorem dX6_toldBound_5 : decode cX6_toldBound 5 = .ok (.istore_n 2, 1) := by decide +kernel
theorem dX6_toldBound_6 : decode cX6_toldBound 6 = .ok (.iload_n 2, 1) := by decide +kernel
theorem dX6_toldBound_7 : decode cX6_toldBound 7 = .ok (.aload_n 0, 1) := by decide +kernel
theorem dX6_toldBound_8 : decode cX6_toldBound 8 = .ok (.getfield 7, 3) := by decide +kernel
theorem dX6_toldBound_11 : decode cX6_toldBound 11 = .ok (.sipush 492, 3) := by decide +kernel
theorem dX6_toldBound_14 : decode cX6_toldBound 14 = .ok (.iload_n 1, 1) := by decide +kernel
theorem dX6_toldBound_15 : decode cX6_toldBound 15 = .ok (.iadd, 1) := by decide +kernel
theorem dX6_toldBound_16 : decode cX6_toldBound 16 = .ok (.iaload, 1) := by decide +kernel
theorem dX6_toldBound_17 : decode cX6_toldBound 17 = .ok (.if_icmp .ge 7, 3) := by decide +kernel
theorem dX6_toldBound_20 : decode cX6_toldBound 20 = .ok (.iconst 0, 1) := by decide +kernel
theorem dX6_toldBound_21 : decode cX6_toldBound 21 = .ok (.goto 15, 3) := by decide +kernel
theorem dX6_toldBound_24 : decode cX6_toldBound 24 = .ok (.iload_n 2, 1) := by decide +kernel
theorem dX6_toldBound_25 : decode cX6_toldBound 25 = .ok (.aload_n 0, 1) := by decide +kernel
theorem dX6_toldBound_26 : decode cX6_toldBound 26 = .ok (.getfield 7, 3) := by decide +kernel
theorem dX6_toldBound_29 : decode cX6_toldBound 29 = .ok (.sipush 492, 3) := by decide +kernel
theorem dX6_toldBound_32 : decode cX6_toldBound 32 = .ok (.iload_n 1, 1) := by decide +kernel
theorem dX6_toldBound_33 : decode cX6_toldBound 33 = .ok (.iadd, 1) := by decide +kernel
theorem dX6_toldBound_34 : decode cX6_toldBound 34 = .ok (.iaload, 1) := by decide +kernel
theorem dX6_toldBound_35 : decode cX6_toldBound 35 = .ok (.isub, 1) := by decide +kernel
theorem dX6_toldBound_36 : decode cX6_toldBound 36 = .ok (.istore_n 3, 1) := by decide +kernel
theorem dX6_toldBound_37 : decode cX6_toldBound 37 = .ok (.aload_n 0, 1) := by decide +kernel
theorem dX6_toldBound_38 : decode cX6_toldBound 38 = .ok (.getfield 7, 3) := by decide +kernel
theorem dX6_toldBound_41 : decode cX6_toldBound 41 = .ok (.sipush 574, 3) := by decide +kernel
theorem dX6_toldBound_44 : decode cX6_toldBound 44 = .ok (.iload_n 1, 1) := by decide +kernel
theorem dX6_toldBound_45 : decode cX6_toldBound 45 = .ok (.iadd, 1) := by decide +kernel
theorem dX6_toldBound_46 : decode cX6_toldBound 46 = .ok (.iaload, 1) := by decide +kernel
theorem dX6_toldBound_47 : decode cX6_toldBound 47 = .ok (.iconst 1, 1) := by decide +kernel
theorem dX6_toldBound_48 : decode cX6_toldBound 48 = .ok (.if_icmp .ne 7, 3) := by decide +kernel
theorem dX6_toldBound_51 : decode cX6_toldBound 51 = .ok (.iload_n 2, 1) := by decide +kernel
theorem dX6_toldBound_52 : decode cX6_toldBound 52 = .ok (.goto 4, 3) := by decide +kernel
theorem dX6_toldBound_55 : decode cX6_toldBound 55 = .ok (.iload_n 3, 1) := by decide +kernel
theorem dX6_toldBound_56 : decode cX6_toldBound 56 = .ok (.ireturn, 1) := by decide +kernel
theorem dX6_boundsTogether_0 : decode cX6_boundsTogether 0 = .ok (.iconst 0, 1) := by decide +kernel
theorem dX6_boundsTogether_1 : decode cX6_boundsTogether 1 = .ok (.istore_n 1, 1) := by decide +kernel
theorem dX6_boundsTogether_2 : decode cX6_boundsTogether 2 = .ok (.iconst 0, 1) := by decide +kernel
theorem dX6_boundsTogether_3 : decode cX6_boundsTogether 3 = .ok (.istore_n 2, 1) := by decide +kernel
theorem dX6_boundsTogether_4 : decode cX6_boundsTogether 4 = .ok (.iload_n 2, 1) := by decide +kernel
theorem dX6_boundsTogether_5 : decode cX6_boundsTogether 5 = .ok (.bipush 6, 2) := by decide +kernel
theorem dX6_boundsTogether_7 : decode cX6_boundsTogether 7 = .ok (.if_icmp .ge 28, 3) := by decide +kernel
theorem dX6_boundsTogether_10 : decode cX6_boundsTogether 10 = .ok (.iload_n 1, 1) := by decide +kernel
theorem dX6_boundsTogether_11 : decode cX6_boundsTogether 11 = .ok (.aload_n 0, 1) := by decide +kernel
theorem dX6_boundsTogether_12 : decode cX6_boundsTogether 12 = .ok (.getfield 7, 3) := by decide +kernel
theorem dX6_boundsTogether_15 : decode cX6_boundsTogether 15 = .ok (.sipush 486, 3) := by decide +kernel
theorem dX6_boundsTogether_18 : decode cX6_boundsTogether 18 = .ok (.iload_n 2, 1) := by decide +kernel
theorem dX6_boundsTogether_19 : decode cX6_boundsTogether 19 = .ok (.iadd, 1) := by decide +kernel
theorem dX6_boundsTogether_20 : decode cX6_boundsTogether 20 = .ok (.iaload, 1) := by decide +kernel
theorem dX6_boundsTogether_21 : decode cX6_boundsTogether 21 = .ok (.aload_n 0, 1) := by decide +kernel
theorem dX6_boundsTogether_22 : decode cX6_boundsTogether 22 = .ok (.iload_n 2, 1) := by decide +kernel
theorem dX6_boundsTogether_23 : decode cX6_boundsTogether 23 = .ok (.invokevirtual 101, 3) := by decide +kernel
theorem dX6_boundsTogether_26 : decode cX6_boundsTogether 26 = .ok (.imul, 1) := by decide +kernel
theorem dX6_boundsTogether_27 : decode cX6_boundsTogether 27 = .ok (.iadd, 1) := by decide +kernel
theorem dX6_boundsTogether_28 : decode cX6_boundsTogether 28 = .ok (.istore_n 1, 1) := by decide +kernel
theorem dX6_boundsTogether_29 : decode cX6_boundsTogether 29 = .ok (.iinc 2 1, 3) := by decide +kernel
theorem dX6_boundsTogether_32 : decode cX6_boundsTogether 32 = .ok (.goto (-28), 3) := by decide +kernel
theorem dX6_boundsTogether_35 : decode cX6_boundsTogether 35 = .ok (.iload_n 1, 1) := by decide +kernel
theorem dX6_boundsTogether_36 : decode cX6_boundsTogether 36 = .ok (.ireturn, 1) := by decide +kernel
theorem dX6_isKnown_0 : decode cX6_isKnown 0 = .ok (.aload_n 0, 1) := by decide +kernel
theorem dX6_isKnown_1 : decode cX6_isKnown 1 = .ok (.iload_n 1, 1) := by decide +kernel
theorem dX6_isKnown_2 : decode cX6_isKnown 2 = .ok (.invokevirtual 95, 3) := by decide +kernel
theorem dX6_isKnown_5 : decode cX6_isKnown 5 = .ok (.ifCond .eq 21, 3) := by decide +kernel
theorem dX6_isKnown_8 : decode cX6_isKnown 8 = .ok (.aload_n 0, 1) := by decide +kernel
theorem dX6_isKnown_9 : decode cX6_isKnown 9 = .ok (.getfield 7, 3) := by decide +kernel
theorem dX6_isKnown_12 : decode cX6_isKnown 12 = .ok (.sipush 646, 3) := by decide +kernel
theorem dX6_isKnown_15 : decode cX6_isKnown 15 = .ok (.iload_n 2, 1) := by decide +kernel
theorem dX6_isKnown_16 : decode cX6_isKnown 16 = .ok (.iadd, 1) := by decide +kernel
theorem dX6_isKnown_17 : decode cX6_isKnown 17 = .ok (.iaload, 1) := by decide +kernel
theorem dX6_isKnown_18 : decode cX6_isKnown 18 = .ok (.iload_n 1, 1) := by decide +kernel
theorem dX6_isKnown_19 : decode cX6_isKnown 19 = .ok (.ishr, 1) := by decide +kernel
theorem dX6_isKnown_20 : decode cX6_isKnown 20 = .ok (.iconst 1, 1) := by decide +kernel
theorem dX6_isKnown_21 : decode cX6_isKnown 21 = .ok (.iand, 1) := by decide +kernel
theorem dX6_isKnown_22 : decode cX6_isKnown 22 = .ok (.iconst 1, 1) := by decide +kernel
theorem dX6_isKnown_23 : decode cX6_isKnown 23 = .ok (.if_icmp .ne 7, 3) := by decide +kernel
theorem dX6_isKnown_26 : decode cX6_isKnown 26 = .ok (.iconst 1, 1) := by decide +kernel
theorem dX6_isKnown_27 : decode cX6_isKnown 27 = .ok (.goto 4, 3) := by decide +kernel
theorem dX6_isKnown_30 : decode cX6_isKnown 30 = .ok (.iconst 0, 1) := by decide +kernel
theorem dX6_isKnown_31 : decode cX6_isKnown 31 = .ok (.ireturn, 1) := by decide +kernel
theorem dX6_low_0 : decode cX6_low 0 = .ok (.iconst 0, 1) := by decide +kernel
theorem dX6_low_1 : decode cX6_low 1 = .ok (.istore_n 2, 1) := by decide +kernel
theorem dX6_low_2 : decode cX6_low 2 = .ok (.iconst 0, 1) := by decide +kernel
theorem dX6_low_3 : decode cX6_low 3 = .ok (.istore_n 3, 1) := by decide +kernel
theorem dX6_low_4 : decode cX6_low 4 = .ok (.iload_n 3, 1) := by decide +kernel
theorem dX6_low_5 : decode cX6_low 5 = .ok (.bipush 6, 2) := by decide +kernel
theorem dX6_low_7 : decode cX6_low 7 = .ok (.if_icmp .ge 50, 3) := by decide +kernel
theorem dX6_low_10 : decode cX6_low 10 = .ok (.iload_n 2, 1) := by decide +kernel
theorem dX6_low_11 : decode cX6_low 11 = .ok (.aload_n 0, 1) := by decide +kernel
theorem dX6_low_12 : decode cX6_low 12 = .ok (.iload_n 3, 1) := by decide +kernel
theorem dX6_low_13 : decode cX6_low 13 = .ok (.invokevirtual 80, 3) := by decide +kernel
theorem dX6_low_16 : decode cX6_low 16 = .ok (.ifCond .eq 32, 3) := by decide +kernel
theorem dX6_low_19 : decode cX6_low 19 = .ok (.aload_n 0, 1) := by decide +kernel
theorem dX6_low_20 : decode cX6_low 20 = .ok (.iload_n 3, 1) := by decide +kernel
theorem dX6_low_21 : decode cX6_low 21 = .ok (.iload_n 1, 1) := by decide +kernel
theorem dX6_low_22 : decode cX6_low 22 = .ok (.invokevirtual 104, 3) := by decide +kernel
theorem dX6_low_25 : decode cX6_low 25 = .ok (.ifCond .eq 23, 3) := by decide +kernel
theorem dX6_low_28 : decode cX6_low 28 = .ok (.aload_n 0, 1) := by decide +kernel
theorem dX6_low_29 : decode cX6_low 29 = .ok (.getfield 7, 3) := by decide +kernel
theorem dX6_low_32 : decode cX6_low 32 = .ok (.sipush 486, 3) := by decide +kernel
theorem dX6_low_35 : decode cX6_low 35 = .ok (.iload_n 3, 1) := by decide +kernel
theorem dX6_low_36 : decode cX6_low 36 = .ok (.iadd, 1) := by decide +kernel
theorem dX6_low_37 : decode cX6_low 37 = .ok (.iaload, 1) := by decide +kernel
theorem dX6_low_38 : decode cX6_low 38 = .ok (.aload_n 0, 1) := by decide +kernel
theorem dX6_low_39 : decode cX6_low 39 = .ok (.iload_n 3, 1) := by decide +kernel
theorem dX6_low_40 : decode cX6_low 40 = .ok (.iload_n 1, 1) := by decide +kernel
theorem dX6_low_41 : decode cX6_low 41 = .ok (.invokevirtual 83, 3) := by decide +kernel
theorem dX6_low_44 : decode cX6_low 44 = .ok (.imul, 1) := by decide +kernel
theorem dX6_low_45 : decode cX6_low 45 = .ok (.goto 4, 3) := by decide +kernel
theorem dX6_low_48 : decode cX6_low 48 = .ok (.iconst 0, 1) := by decide +kernel
theorem dX6_low_49 : decode cX6_low 49 = .ok (.iadd, 1) := by decide +kernel
theorem dX6_low_50 : decode cX6_low 50 = .ok (.istore_n 2, 1) := by decide +kernel
theorem dX6_low_51 : decode cX6_low 51 = .ok (.iinc 3 1, 3) := by decide +kernel
theorem dX6_low_54 : decode cX6_low 54 = .ok (.goto (-50), 3) := by decide +kernel
theorem dX6_low_57 : decode cX6_low 57 = .ok (.iload_n 2, 1) := by decide +kernel
theorem dX6_low_58 : decode cX6_low 58 = .ok (.ireturn, 1) := by decide +kernel
theorem dX6_reckon_0 : decode cX6_reckon 0 = .ok (.iconst 0, 1) := by decide +kernel
theorem dX6_reckon_1 : decode cX6_reckon 1 = .ok (.istore_n 1, 1) := by decide +kernel
theorem dX6_reckon_2 : decode cX6_reckon 2 = .ok (.iload_n 1, 1) := by decide +kernel
theorem dX6_reckon_3 : decode cX6_reckon 3 = .ok (.bipush 60, 2) := by decide +kernel
theorem dX6_reckon_5 : decode cX6_reckon 5 = .ok (.if_icmp .ge 32, 3) := by decide +kernel
theorem dX6_reckon_8 : decode cX6_reckon 8 = .ok (.aload_n 0, 1) := by decide +kernel
theorem dX6_reckon_9 : decode cX6_reckon 9 = .ok (.getfield 22, 3) := by decide +kernel
theorem dX6_reckon_12 : decode cX6_reckon 12 = .ok (.iload_n 1, 1) := by decide +kernel
theorem dX6_reckon_13 : decode cX6_reckon 13 = .ok (.aload_n 0, 1) := by decide +kernel
theorem dX6_reckon_14 : decode cX6_reckon 14 = .ok (.iload_n 1, 1) := by decide +kernel
theorem dX6_reckon_15 : decode cX6_reckon 15 = .ok (.invokevirtual 108, 3) := by decide +kernel
theorem dX6_reckon_18 : decode cX6_reckon 18 = .ok (.ifCond .eq 11, 3) := by decide +kernel
theorem dX6_reckon_21 : decode cX6_reckon 21 = .ok (.aload_n 0, 1) := by decide +kernel
theorem dX6_reckon_22 : decode cX6_reckon 22 = .ok (.iload_n 1, 1) := by decide +kernel
theorem dX6_reckon_23 : decode cX6_reckon 23 = .ok (.invokevirtual 111, 3) := by decide +kernel
theorem dX6_reckon_26 : decode cX6_reckon 26 = .ok (.goto 4, 3) := by decide +kernel
theorem dX6_reckon_29 : decode cX6_reckon 29 = .ok (.iconst 0, 1) := by decide +kernel
theorem dX6_reckon_30 : decode cX6_reckon 30 = .ok (.iastore, 1) := by decide +kernel
theorem dX6_reckon_31 : decode cX6_reckon 31 = .ok (.iinc 1 1, 3) := by decide +kernel
theorem dX6_reckon_34 : decode cX6_reckon 34 = .ok (.goto (-32), 3) := by decide +kernel
theorem dX6_reckon_37 : decode cX6_reckon 37 = .ok (.return_, 1) := by decide +kernel
theorem dX6_high_0 : decode cX6_high 0 = .ok (.aload_n 0, 1) := by decide +kernel
theorem dX6_high_1 : decode cX6_high 1 = .ok (.getfield 22, 3) := by decide +kernel
theorem dX6_high_4 : decode cX6_high 4 = .ok (.iload_n 1, 1) := by decide +kernel
theorem dX6_high_5 : decode cX6_high 5 = .ok (.iaload, 1) := by decide +kernel
theorem dX6_high_6 : decode cX6_high 6 = .ok (.istore_n 2, 1) := by decide +kernel
theorem dX6_high_7 : decode cX6_high 7 = .ok (.iconst 0, 1) := by decide +kernel
theorem dX6_high_8 : decode cX6_high 8 = .ok (.istore_n 3, 1) := by decide +kernel
theorem dX6_high_9 : decode cX6_high 9 = .ok (.iload_n 3, 1) := by decide +kernel
theorem dX6_high_10 : decode cX6_high 10 = .ok (.bipush 6, 2) := by decide +kernel
theorem dX6_high_12 : decode cX6_high 12 = .ok (.if_icmp .ge 49, 3) := by decide +kernel
theorem dX6_high_15 : decode cX6_high 15 = .ok (.iload_n 2, 1) := by decide +kernel
theorem dX6_high_16 : decode cX6_high 16 = .ok (.aload_n 0, 1) := by decide +kernel
theorem dX6_high_17 : decode cX6_high 17 = .ok (.iload_n 3, 1) := by decide +kernel
theorem dX6_high_18 : decode cX6_high 18 = .ok (.invokevirtual 80, 3) := by decide +kernel
theorem dX6_high_21 : decode cX6_high 21 = .ok (.ifCond .eq 31, 3) := by decide +kernel
theorem dX6_high_24 : decode cX6_high 24 = .ok (.aload_n 0, 1) := by decide +kernel
theorem dX6_high_25 : decode cX6_high 25 = .ok (.iload_n 3, 1) := by decide +kernel
theorem dX6_high_26 : decode cX6_high 26 = .ok (.iload_n 1, 1) := by decide +kernel
theorem dX6_high_27 : decode cX6_high 27 = .ok (.invokevirtual 104, 3) := by decide +kernel
theorem dX6_high_30 : decode cX6_high 30 = .ok (.ifCond .ne 22, 3) := by decide +kernel
theorem dX6_high_33 : decode cX6_high 33 = .ok (.aload_n 0, 1) := by decide +kernel
theorem dX6_high_34 : decode cX6_high 34 = .ok (.getfield 7, 3) := by decide +kernel
theorem dX6_high_37 : decode cX6_high 37 = .ok (.sipush 486, 3) := by decide +kernel
theorem dX6_high_40 : decode cX6_high 40 = .ok (.iload_n 3, 1) := by decide +kernel
theorem dX6_high_41 : decode cX6_high 41 = .ok (.iadd, 1) := by decide +kernel
theorem dX6_high_42 : decode cX6_high 42 = .ok (.iaload, 1) := by decide +kernel
theorem dX6_high_43 : decode cX6_high 43 = .ok (.aload_n 0, 1) := by decide +kernel
theorem dX6_high_44 : decode cX6_high 44 = .ok (.iload_n 3, 1) := by decide +kernel
theorem dX6_high_45 : decode cX6_high 45 = .ok (.invokevirtual 101, 3) := by decide +kernel
theorem dX6_high_48 : decode cX6_high 48 = .ok (.imul, 1) := by decide +kernel
theorem dX6_high_49 : decode cX6_high 49 = .ok (.goto 4, 3) := by decide +kernel
theorem dX6_high_52 : decode cX6_high 52 = .ok (.iconst 0, 1) := by decide +kernel
theorem dX6_high_53 : decode cX6_high 53 = .ok (.iadd, 1) := by decide +kernel
theorem dX6_high_54 : decode cX6_high 54 = .ok (.istore_n 2, 1) := by decide +kernel
theorem dX6_high_55 : decode cX6_high 55 = .ok (.iinc 3 1, 3) := by decide +kernel
theorem dX6_high_58 : decode cX6_high 58 = .ok (.goto (-49), 3) := by decide +kernel
theorem dX6_high_61 : decode cX6_high 61 = .ok (.iload_n 2, 1) := by decide +kernel
theorem dX6_high_62 : decode cX6_high 62 = .ok (.ireturn, 1) := by decide +kernel
theorem dX6_isSeen_0 : decode cX6_isSeen 0 = .ok (.aload_n 0, 1) := by decide +kernel
theorem dX6_isSeen_1 : decode cX6_isSeen 1 = .ok (.getfield 7, 3) := by decide +kernel
theorem dX6_isSeen_4 : decode cX6_isSeen 4 = .ok (.sipush 586, 3) := by decide +kernel
theorem dX6_isSeen_7 : decode cX6_isSeen 7 = .ok (.iload_n 1, 1) := by decide +kernel
theorem dX6_isSeen_8 : decode cX6_isSeen 8 = .ok (.iadd, 1) := by decide +kernel
theorem dX6_isSeen_9 : decode cX6_isSeen 9 = .ok (.iaload, 1) := by decide +kernel
theorem dX6_isSeen_10 : decode cX6_isSeen 10 = .ok (.ifCond .le 7, 3) := by decide +kernel
theorem dX6_isSeen_13 : decode cX6_isSeen 13 = .ok (.iconst 1, 1) := by decide +kernel
theorem dX6_isSeen_14 : decode cX6_isSeen 14 = .ok (.goto 4, 3) := by decide +kernel
theorem dX6_isSeen_17 : decode cX6_isSeen 17 = .ok (.iconst 0, 1) := by decide +kernel
theorem dX6_isSeen_18 : decode cX6_isSeen 18 = .ok (.ireturn, 1) := by decide +kernel
theorem dX6_seenMany_0 : decode cX6_seenMany 0 = .ok (.iconst 0, 1) := by decide +kernel
theorem dX6_seenMany_1 : decode cX6_seenMany 1 = .ok (.istore_n 1, 1) := by decide +kernel
theorem dX6_seenMany_2 : decode cX6_seenMany 2 = .ok (.iconst 0, 1) := by decide +kernel
theorem dX6_seenMany_3 : decode cX6_seenMany 3 = .ok (.istore_n 2, 1) := by decide +kernel
theorem dX6_seenMany_4 : decode cX6_seenMany 4 = .ok (.iload_n 2, 1) := by decide +kernel
theorem dX6_seenMany_5 : decode cX6_seenMany 5 = .ok (.bipush 60, 2) := by decide +kernel
theorem dX6_seenMany_7 : decode cX6_seenMany 7 = .ok (.if_icmp .ge 25, 3) := by decide +kernel
theorem dX6_seenMany_10 : decode cX6_seenMany 10 = .ok (.iload_n 1, 1) := by decide +kernel
theorem dX6_seenMany_11 : decode cX6_seenMany 11 = .ok (.aload_n 0, 1) := by decide +kernel
theorem dX6_seenMany_12 : decode cX6_seenMany 12 = .ok (.iload_n 2, 1) := by decide +kernel
theorem dX6_seenMany_13 : decode cX6_seenMany 13 = .ok (.invokevirtual 108, 3) := by decide +kernel
theorem dX6_seenMany_16 : decode cX6_seenMany 16 = .ok (.ifCond .eq 7, 3) := by decide +kernel
theorem dX6_seenMany_19 : decode cX6_seenMany 19 = .ok (.iconst 1, 1) := by decide +kernel
theorem dX6_seenMany_20 : decode cX6_seenMany 20 = .ok (.goto 4, 3) := by decide +kernel
theorem dX6_seenMany_23 : decode cX6_seenMany 23 = .ok (.iconst 0, 1) := by decide +kernel
theorem dX6_seenMany_24 : decode cX6_seenMany 24 = .ok (.iadd, 1) := by decide +kernel
theorem dX6_seenMany_25 : decode cX6_seenMany 25 = .ok (.istore_n 1, 1) := by decide +kernel
theorem dX6_seenMany_26 : decode cX6_seenMany 26 = .ok (.iinc 2 1, 3) := by decide +kernel
theorem dX6_seenMany_29 : decode cX6_seenMany 29 = .ok (.goto (-25), 3) := by decide +kernel
theorem dX6_seenMany_32 : decode cX6_seenMany 32 = .ok (.iload_n 1, 1) := by decide +kernel
theorem dX6_seenMany_33 : decode cX6_seenMany 33 = .ok (.ireturn, 1) := by decide +kernel
theorem dX6_toldMany_0 : decode cX6_toldMany 0 = .ok (.aload_n 0, 1) := by decide +kernel
theorem dX6_toldMany_1 : decode cX6_toldMany 1 = .ok (.invokevirtual 114, 3) := by decide +kernel
theorem dX6_toldMany_4 : decode cX6_toldMany 4 = .ok (.istore_n 1, 1) := by decide +kernel
theorem dX6_toldMany_5 : decode cX6_toldMany 5 = .ok (.iload_n 1, 1) := by decide +kernel
theorem dX6_toldMany_6 : decode cX6_toldMany 6 = .ok (.aload_n 0, 1) := by decide +kernel
theorem dX6_toldMany_7 : decode cX6_toldMany 7 = .ok (.getfield 7, 3) := by decide +kernel
theorem dX6_toldMany_10 : decode cX6_toldMany 10 = .ok (.sipush 558, 3) := by decide +kernel
theorem dX6_toldMany_13 : decode cX6_toldMany 13 = .ok (.iaload, 1) := by decide +kernel
theorem dX6_toldMany_14 : decode cX6_toldMany 14 = .ok (.if_icmp .ge 7, 3) := by decide +kernel
theorem dX6_toldMany_17 : decode cX6_toldMany 17 = .ok (.iload_n 1, 1) := by decide +kernel
theorem dX6_toldMany_18 : decode cX6_toldMany 18 = .ok (.goto 11, 3) := by decide +kernel
theorem dX6_toldMany_21 : decode cX6_toldMany 21 = .ok (.aload_n 0, 1) := by decide +kernel
theorem dX6_toldMany_22 : decode cX6_toldMany 22 = .ok (.getfield 7, 3) := by decide +kernel
theorem dX6_toldMany_25 : decode cX6_toldMany 25 = .ok (.sipush 558, 3) := by decide +kernel
theorem dX6_toldMany_28 : decode cX6_toldMany 28 = .ok (.iaload, 1) := by decide +kernel
theorem dX6_toldMany_29 : decode cX6_toldMany 29 = .ok (.ireturn, 1) := by decide +kernel
theorem dX6_frontPlace_0 : decode cX6_frontPlace 0 = .ok (.aload_n 0, 1) := by decide +kernel
theorem dX6_frontPlace_1 : decode cX6_frontPlace 1 = .ok (.getfield 22, 3) := by decide +kernel
theorem dX6_frontPlace_4 : decode cX6_frontPlace 4 = .ok (.iload_n 1, 1) := by decide +kernel
theorem dX6_frontPlace_5 : decode cX6_frontPlace 5 = .ok (.iaload, 1) := by decide +kernel
theorem dX6_frontPlace_6 : decode cX6_frontPlace 6 = .ok (.istore_n 2, 1) := by decide +kernel
theorem dX6_frontPlace_7 : decode cX6_frontPlace 7 = .ok (.iconst 0, 1) := by decide +kernel
theorem dX6_frontPlace_8 : decode cX6_frontPlace 8 = .ok (.istore_n 3, 1) := by decide +kernel
theorem dX6_frontPlace_9 : decode cX6_frontPlace 9 = .ok (.iconst 0, 1) := by decide +kernel
theorem dX6_frontPlace_10 : decode cX6_frontPlace 10 = .ok (.istore 4, 2) := by decide +kernel
theorem dX6_frontPlace_12 : decode cX6_frontPlace 12 = .ok (.iload 4, 2) := by decide +kernel
theorem dX6_frontPlace_14 : decode cX6_frontPlace 14 = .ok (.bipush 60, 2) := by decide +kernel
theorem dX6_frontPlace_16 : decode cX6_frontPlace 16 = .ok (.if_icmp .ge 66, 3) := by decide +kernel
theorem dX6_frontPlace_19 : decode cX6_frontPlace 19 = .ok (.aload_n 0, 1) := by decide +kernel
theorem dX6_frontPlace_20 : decode cX6_frontPlace 20 = .ok (.getfield 22, 3) := by decide +kernel
theorem dX6_frontPlace_23 : decode cX6_frontPlace 23 = .ok (.iload 4, 2) := by decide +kernel
theorem dX6_frontPlace_25 : decode cX6_frontPlace 25 = .ok (.iaload, 1) := by decide +kernel
theorem dX6_frontPlace_26 : decode cX6_frontPlace 26 = .ok (.iload_n 2, 1) := by decide +kernel
theorem dX6_frontPlace_27 : decode cX6_frontPlace 27 = .ok (.if_icmp .gt 20, 3) := by decide +kernel
theorem dX6_frontPlace_30 : decode cX6_frontPlace 30 = .ok (.aload_n 0, 1) := by decide +kernel
theorem dX6_frontPlace_31 : decode cX6_frontPlace 31 = .ok (.getfield 22, 3) := by decide +kernel
theorem dX6_frontPlace_34 : decode cX6_frontPlace 34 = .ok (.iload 4, 2) := by decide +kernel
theorem dX6_frontPlace_36 : decode cX6_frontPlace 36 = .ok (.iaload, 1) := by decide +kernel
theorem dX6_frontPlace_37 : decode cX6_frontPlace 37 = .ok (.iload_n 2, 1) := by decide +kernel
theorem dX6_frontPlace_38 : decode cX6_frontPlace 38 = .ok (.if_icmp .ne 13, 3) := by decide +kernel
theorem dX6_frontPlace_41 : decode cX6_frontPlace 41 = .ok (.iload 4, 2) := by decide +kernel
theorem dX6_frontPlace_43 : decode cX6_frontPlace 43 = .ok (.iload_n 1, 1) := by decide +kernel
theorem dX6_frontPlace_44 : decode cX6_frontPlace 44 = .ok (.if_icmp .ge 7, 3) := by decide +kernel
theorem dX6_frontPlace_47 : decode cX6_frontPlace 47 = .ok (.iconst 1, 1) := by decide +kernel
theorem dX6_frontPlace_48 : decode cX6_frontPlace 48 = .ok (.goto 4, 3) := by decide +kernel
theorem dX6_frontPlace_51 : decode cX6_frontPlace 51 = .ok (.iconst 0, 1) := by decide +kernel
theorem dX6_frontPlace_52 : decode cX6_frontPlace 52 = .ok (.istore 5, 2) := by decide +kernel
theorem dX6_frontPlace_54 : decode cX6_frontPlace 54 = .ok (.iload_n 3, 1) := by decide +kernel
theorem dX6_frontPlace_55 : decode cX6_frontPlace 55 = .ok (.aload_n 0, 1) := by decide +kernel
theorem dX6_frontPlace_56 : decode cX6_frontPlace 56 = .ok (.iload 4, 2) := by decide +kernel
theorem dX6_frontPlace_58 : decode cX6_frontPlace 58 = .ok (.invokevirtual 108, 3) := by decide +kernel
theorem dX6_frontPlace_61 : decode cX6_frontPlace 61 = .ok (.ifCond .eq 12, 3) := by decide +kernel
theorem dX6_frontPlace_64 : decode cX6_frontPlace 64 = .ok (.iload 5, 2) := by decide +kernel
theorem dX6_frontPlace_66 : decode cX6_frontPlace 66 = .ok (.ifCond .eq 7, 3) := by decide +kernel
theorem dX6_frontPlace_69 : decode cX6_frontPlace 69 = .ok (.iconst 1, 1) := by decide +kernel
theorem dX6_frontPlace_70 : decode cX6_frontPlace 70 = .ok (.goto 4, 3) := by decide +kernel
theorem dX6_frontPlace_73 : decode cX6_frontPlace 73 = .ok (.iconst 0, 1) := by decide +kernel
theorem dX6_frontPlace_74 : decode cX6_frontPlace 74 = .ok (.iadd, 1) := by decide +kernel
theorem dX6_frontPlace_75 : decode cX6_frontPlace 75 = .ok (.istore_n 3, 1) := by decide +kernel
theorem dX6_frontPlace_76 : decode cX6_frontPlace 76 = .ok (.iinc 4 1, 3) := by decide +kernel
theorem dX6_frontPlace_79 : decode cX6_frontPlace 79 = .ok (.goto (-67), 3) := by decide +kernel
theorem dX6_frontPlace_82 : decode cX6_frontPlace 82 = .ok (.iload_n 3, 1) := by decide +kernel
theorem dX6_frontPlace_83 : decode cX6_frontPlace 83 = .ok (.ireturn, 1) := by decide +kernel
theorem dX6_frontAt_0 : decode cX6_frontAt 0 = .ok (.iconst (-1), 1) := by decide +kernel
theorem dX6_frontAt_1 : decode cX6_frontAt 1 = .ok (.istore_n 2, 1) := by decide +kernel
theorem dX6_frontAt_2 : decode cX6_frontAt 2 = .ok (.iconst 0, 1) := by decide +kernel
theorem dX6_frontAt_3 : decode cX6_frontAt 3 = .ok (.istore_n 3, 1) := by decide +kernel
theorem dX6_frontAt_4 : decode cX6_frontAt 4 = .ok (.iload_n 3, 1) := by decide +kernel
theorem dX6_frontAt_5 : decode cX6_frontAt 5 = .ok (.bipush 60, 2) := by decide +kernel
theorem dX6_frontAt_7 : decode cX6_frontAt 7 = .ok (.if_icmp .ge 32, 3) := by decide +kernel
theorem dX6_frontAt_10 : decode cX6_frontAt 10 = .ok (.aload_n 0, 1) := by decide +kernel
theorem dX6_frontAt_11 : decode cX6_frontAt 11 = .ok (.iload_n 3, 1) := by decide +kernel
theorem dX6_frontAt_12 : decode cX6_frontAt 12 = .ok (.invokevirtual 108, 3) := by decide +kernel
theorem dX6_frontAt_15 : decode cX6_frontAt 15 = .ok (.ifCond .eq 16, 3) := by decide +kernel
theorem dX6_frontAt_18 : decode cX6_frontAt 18 = .ok (.aload_n 0, 1) := by decide +kernel
theorem dX6_frontAt_19 : decode cX6_frontAt 19 = .ok (.iload_n 3, 1) := by decide +kernel
theorem dX6_frontAt_20 : decode cX6_frontAt 20 = .ok (.invokevirtual 117, 3) := by decide +kernel
theorem dX6_frontAt_23 : decode cX6_frontAt 23 = .ok (.iload_n 1, 1) := by decide +kernel
theorem dX6_frontAt_24 : decode cX6_frontAt 24 = .ok (.if_icmp .ne 7, 3) := by decide +kernel
theorem dX6_frontAt_27 : decode cX6_frontAt 27 = .ok (.iload_n 3, 1) := by decide +kernel
theorem dX6_frontAt_28 : decode cX6_frontAt 28 = .ok (.goto 4, 3) := by decide +kernel
theorem dX6_frontAt_31 : decode cX6_frontAt 31 = .ok (.iload_n 2, 1) := by decide +kernel
theorem dX6_frontAt_32 : decode cX6_frontAt 32 = .ok (.istore_n 2, 1) := by decide +kernel
theorem dX6_frontAt_33 : decode cX6_frontAt 33 = .ok (.iinc 3 1, 3) := by decide +kernel
theorem dX6_frontAt_36 : decode cX6_frontAt 36 = .ok (.goto (-32), 3) := by decide +kernel
theorem dX6_frontAt_39 : decode cX6_frontAt 39 = .ok (.iload_n 2, 1) := by decide +kernel
theorem dX6_frontAt_40 : decode cX6_frontAt 40 = .ok (.ireturn, 1) := by decide +kernel
theorem dX6_isOver_0 : decode cX6_isOver 0 = .ok (.iconst 0, 1) := by decide +kernel
theorem dX6_isOver_1 : decode cX6_isOver 1 = .ok (.istore_n 1, 1) := by decide +kernel
theorem dX6_isOver_2 : decode cX6_isOver 2 = .ok (.iconst 0, 1) := by decide +kernel
theorem dX6_isOver_3 : decode cX6_isOver 3 = .ok (.istore_n 2, 1) := by decide +kernel
theorem dX6_isOver_4 : decode cX6_isOver 4 = .ok (.iload_n 2, 1) := by decide +kernel
theorem dX6_isOver_5 : decode cX6_isOver 5 = .ok (.bipush 6, 2) := by decide +kernel
theorem dX6_isOver_7 : decode cX6_isOver 7 = .ok (.if_icmp .ge 25, 3) := by decide +kernel
theorem dX6_isOver_10 : decode cX6_isOver 10 = .ok (.iload_n 1, 1) := by decide +kernel
theorem dX6_isOver_11 : decode cX6_isOver 11 = .ok (.aload_n 0, 1) := by decide +kernel
theorem dX6_isOver_12 : decode cX6_isOver 12 = .ok (.iload_n 2, 1) := by decide +kernel
theorem dX6_isOver_13 : decode cX6_isOver 13 = .ok (.invokevirtual 120, 3) := by decide +kernel
theorem dX6_isOver_16 : decode cX6_isOver 16 = .ok (.ifCond .eq 7, 3) := by decide +kernel
theorem dX6_isOver_19 : decode cX6_isOver 19 = .ok (.iconst 1, 1) := by decide +kernel
theorem dX6_isOver_20 : decode cX6_isOver 20 = .ok (.goto 4, 3) := by decide +kernel
theorem dX6_isOver_23 : decode cX6_isOver 23 = .ok (.iconst 0, 1) := by decide +kernel
theorem dX6_isOver_24 : decode cX6_isOver 24 = .ok (.iadd, 1) := by decide +kernel
theorem dX6_isOver_25 : decode cX6_isOver 25 = .ok (.istore_n 1, 1) := by decide +kernel
theorem dX6_isOver_26 : decode cX6_isOver 26 = .ok (.iinc 2 1, 3) := by decide +kernel
theorem dX6_isOver_29 : decode cX6_isOver 29 = .ok (.goto (-25), 3) := by decide +kernel
theorem dX6_isOver_32 : decode cX6_isOver 32 = .ok (.iload_n 1, 1) := by decide +kernel
theorem dX6_isOver_33 : decode cX6_isOver 33 = .ok (.ifCond .ne 5, 3) := by decide +kernel
theorem dX6_isOver_36 : decode cX6_isOver 36 = .ok (.iconst 1, 1) := by decide +kernel
theorem dX6_isOver_37 : decode cX6_isOver 37 = .ok (.ireturn, 1) := by decide +kernel
theorem dX6_isOver_38 : decode cX6_isOver 38 = .ok (.aload_n 0, 1) := by decide +kernel
theorem dX6_isOver_39 : decode cX6_isOver 39 = .ok (.invokevirtual 114, 3) := by decide +kernel
theorem dX6_isOver_42 : decode cX6_isOver 42 = .ok (.aload_n 0, 1) := by decide +kernel
theorem dX6_isOver_43 : decode cX6_isOver 43 = .ok (.getfield 7, 3) := by decide +kernel
theorem dX6_isOver_46 : decode cX6_isOver 46 = .ok (.sipush 558, 3) := by decide +kernel
theorem dX6_isOver_49 : decode cX6_isOver 49 = .ok (.iaload, 1) := by decide +kernel
theorem dX6_isOver_50 : decode cX6_isOver 50 = .ok (.if_icmp .ge 5, 3) := by decide +kernel
theorem dX6_isOver_53 : decode cX6_isOver 53 = .ok (.iconst 0, 1) := by decide +kernel
theorem dX6_isOver_54 : decode cX6_isOver 54 = .ok (.ireturn, 1) := by decide +kernel
theorem dX6_isOver_55 : decode cX6_isOver 55 = .ok (.aload_n 0, 1) := by decide +kernel
theorem dX6_isOver_56 : decode cX6_isOver 56 = .ok (.invokevirtual 123, 3) := by decide +kernel
theorem dX6_isOver_59 : decode cX6_isOver 59 = .ok (.aload_n 0, 1) := by decide +kernel
theorem dX6_isOver_60 : decode cX6_isOver 60 = .ok (.aload_n 0, 1) := by decide +kernel
theorem dX6_isOver_61 : decode cX6_isOver 61 = .ok (.getfield 7, 3) := by decide +kernel
theorem dX6_isOver_64 : decode cX6_isOver 64 = .ok (.sipush 558, 3) := by decide +kernel
theorem dX6_isOver_67 : decode cX6_isOver 67 = .ok (.iaload, 1) := by decide +kernel
theorem dX6_isOver_68 : decode cX6_isOver 68 = .ok (.iconst 1, 1) := by decide +kernel
theorem dX6_isOver_69 : decode cX6_isOver 69 = .ok (.isub, 1) := by decide +kernel
theorem dX6_isOver_70 : decode cX6_isOver 70 = .ok (.invokevirtual 126, 3) := by decide +kernel
theorem dX6_isOver_73 : decode cX6_isOver 73 = .ok (.istore_n 2, 1) := by decide +kernel
theorem dX6_isOver_74 : decode cX6_isOver 74 = .ok (.aload_n 0, 1) := by decide +kernel
theorem dX6_isOver_75 : decode cX6_isOver 75 = .ok (.getfield 22, 3) := by decide +kernel
theorem dX6_isOver_78 : decode cX6_isOver 78 = .ok (.iload_n 2, 1) := by decide +kernel
theorem dX6_isOver_79 : decode cX6_isOver 79 = .ok (.iaload, 1) := by decide +kernel
theorem dX6_isOver_80 : decode cX6_isOver 80 = .ok (.istore_n 3, 1) := by decide +kernel
theorem dX6_isOver_81 : decode cX6_isOver 81 = .ok (.aload_n 0, 1) := by decide +kernel
theorem dX6_isOver_82 : decode cX6_isOver 82 = .ok (.invokevirtual 129, 3) := by decide +kernel
theorem dX6_isOver_85 : decode cX6_isOver 85 = .ok (.iload_n 3, 1) := by decide +kernel
theorem dX6_isOver_86 : decode cX6_isOver 86 = .ok (.if_icmp .ge 7, 3) := by decide +kernel
theorem dX6_isOver_89 : decode cX6_isOver 89 = .ok (.iconst 1, 1) := by decide +kernel
theorem dX6_isOver_90 : decode cX6_isOver 90 = .ok (.goto 4, 3) := by decide +kernel
theorem dX6_isOver_93 : decode cX6_isOver 93 = .ok (.iconst 0, 1) := by decide +kernel
theorem dX6_isOver_94 : decode cX6_isOver 94 = .ok (.istore 4, 2) := by decide +kernel
theorem dX6_isOver_96 : decode cX6_isOver 96 = .ok (.iconst 0, 1) := by decide +kernel
theorem dX6_isOver_97 : decode cX6_isOver 97 = .ok (.istore 5, 2) := by decide +kernel
theorem dX6_isOver_99 : decode cX6_isOver 99 = .ok (.iload 5, 2) := by decide +kernel
theorem dX6_isOver_101 : decode cX6_isOver 101 = .ok (.bipush 60, 2) := by decide +kernel
theorem dX6_isOver_103 : decode cX6_isOver 103 = .ok (.if_icmp .ge 73, 3) := by decide +kernel
theorem dX6_isOver_106 : decode cX6_isOver 106 = .ok (.iload 4, 2) := by decide +kernel
theorem dX6_isOver_108 : decode cX6_isOver 108 = .ok (.ifCond .eq 68, 3) := by decide +kernel
theorem dX6_isOver_111 : decode cX6_isOver 111 = .ok (.aload_n 0, 1) := by decide +kernel
theorem dX6_isOver_112 : decode cX6_isOver 112 = .ok (.iload 5, 2) := by decide +kernel
theorem dX6_isOver_114 : decode cX6_isOver 114 = .ok (.invokevirtual 108, 3) := by decide +kernel
theorem dX6_isOver_117 : decode cX6_isOver 117 = .ok (.ifCond .eq 53, 3) := by decide +kernel
theorem dX6_isOver_120 : decode cX6_isOver 120 = .ok (.aload_n 0, 1) := by decide +kernel
theorem dX6_isOver_121 : decode cX6_isOver 121 = .ok (.iload 5, 2) := by decide +kernel
theorem dX6_isOver_123 : decode cX6_isOver 123 = .ok (.invokevirtual 117, 3) := by decide +kernel
theorem dX6_isOver_126 : decode cX6_isOver 126 = .ok (.aload_n 0, 1) := by decide +kernel
theorem dX6_isOver_127 : decode cX6_isOver 127 = .ok (.getfield 7, 3) := by decide +kernel
theorem dX6_isOver_130 : decode cX6_isOver 130 = .ok (.sipush 558, 3) := by decide +kernel
theorem dX6_isOver_133 : decode cX6_isOver 133 = .ok (.iaload, 1) := by decide +kernel
theorem dX6_isOver_134 : decode cX6_isOver 134 = .ok (.if_icmp .lt 36, 3) := by decide +kernel
theorem dX6_isOver_137 : decode cX6_isOver 137 = .ok (.aload_n 0, 1) := by decide +kernel
theorem dX6_isOver_138 : decode cX6_isOver 138 = .ok (.iload 5, 2) := by decide +kernel
theorem dX6_isOver_140 : decode cX6_isOver 140 = .ok (.invokevirtual 132, 3) := by decide +kernel
theorem dX6_isOver_143 : decode cX6_isOver 143 = .ok (.istore 6, 2) := by decide +kernel
theorem dX6_isOver_145 : decode cX6_isOver 145 = .ok (.iload 6, 2) := by decide +kernel
theorem dX6_isOver_147 : decode cX6_isOver 147 = .ok (.iload_n 3, 1) := by decide +kernel
theorem dX6_isOver_148 : decode cX6_isOver 148 = .ok (.if_icmp .lt 15, 3) := by decide +kernel
theorem dX6_isOver_151 : decode cX6_isOver 151 = .ok (.iload 6, 2) := by decide +kernel
theorem dX6_isOver_153 : decode cX6_isOver 153 = .ok (.iload_n 3, 1) := by decide +kernel
theorem dX6_isOver_154 : decode cX6_isOver 154 = .ok (.if_icmp .ne 13, 3) := by decide +kernel
theorem dX6_isOver_157 : decode cX6_isOver 157 = .ok (.iload 5, 2) := by decide +kernel
theorem dX6_isOver_159 : decode cX6_isOver 159 = .ok (.iload_n 2, 1) := by decide +kernel
theorem dX6_isOver_160 : decode cX6_isOver 160 = .ok (.if_icmp .le 7, 3) := by decide +kernel
theorem dX6_isOver_163 : decode cX6_isOver 163 = .ok (.iconst 1, 1) := by decide +kernel
theorem dX6_isOver_164 : decode cX6_isOver 164 = .ok (.goto 4, 3) := by decide +kernel
theorem dX6_isOver_167 : decode cX6_isOver 167 = .ok (.iconst 0, 1) := by decide +kernel
theorem dX6_isOver_168 : decode cX6_isOver 168 = .ok (.istore 4, 2) := by decide +kernel
theorem dX6_isOver_170 : decode cX6_isOver 170 = .ok (.iinc 5 1, 3) := by decide +kernel
theorem dX6_isOver_173 : decode cX6_isOver 173 = .ok (.goto (-74), 3) := by decide +kernel
theorem dX6_isOver_176 : decode cX6_isOver 176 = .ok (.iload 4, 2) := by decide +kernel
theorem dX6_isOver_178 : decode cX6_isOver 178 = .ok (.ireturn, 1) := by decide +kernel
theorem dX6_nextList_0 : decode cX6_nextList 0 = .ok (.iconst (-1), 1) := by decide +kernel
theorem dX6_nextList_1 : decode cX6_nextList 1 = .ok (.istore_n 1, 1) := by decide +kernel
theorem dX6_nextList_2 : decode cX6_nextList 2 = .ok (.iconst 1, 1) := by decide +kernel
theorem dX6_nextList_3 : decode cX6_nextList 3 = .ok (.istore_n 2, 1) := by decide +kernel
theorem dX6_nextList_4 : decode cX6_nextList 4 = .ok (.iload_n 2, 1) := by decide +kernel
theorem dX6_nextList_5 : decode cX6_nextList 5 = .ok (.bipush 6, 2) := by decide +kernel
theorem dX6_nextList_7 : decode cX6_nextList 7 = .ok (.if_icmp .gt 63, 3) := by decide +kernel
theorem dX6_nextList_10 : decode cX6_nextList 10 = .ok (.aload_n 0, 1) := by decide +kernel
theorem dX6_nextList_11 : decode cX6_nextList 11 = .ok (.getfield 7, 3) := by decide +kernel
theorem dX6_nextList_14 : decode cX6_nextList 14 = .ok (.sipush 560, 3) := by decide +kernel
theorem dX6_nextList_17 : decode cX6_nextList 17 = .ok (.iaload, 1) := by decide +kernel
theorem dX6_nextList_18 : decode cX6_nextList 18 = .ok (.ifCond .ne 19, 3) := by decide +kernel
theorem dX6_nextList_21 : decode cX6_nextList 21 = .ok (.aload_n 0, 1) := by decide +kernel
theorem dX6_nextList_22 : decode cX6_nextList 22 = .ok (.getfield 7, 3) := by decide +kernel
theorem dX6_nextList_25 : decode cX6_nextList 25 = .ok (.sipush 563, 3) := by decide +kernel
theorem dX6_nextList_28 : decode cX6_nextList 28 = .ok (.iaload, 1) := by decide +kernel
theorem dX6_nextList_29 : decode cX6_nextList 29 = .ok (.iload_n 2, 1) := by decide +kernel
theorem dX6_nextList_30 : decode cX6_nextList 30 = .ok (.iadd, 1) := by decide +kernel
theorem dX6_nextList_31 : decode cX6_nextList 31 = .ok (.bipush 6, 2) := by decide +kernel
theorem dX6_nextList_33 : decode cX6_nextList 33 = .ok (.irem, 1) := by decide +kernel
theorem dX6_nextList_34 : decode cX6_nextList 34 = .ok (.goto 6, 3) := by decide +kernel
theorem dX6_nextList_37 : decode cX6_nextList 37 = .ok (.iload_n 2, 1) := by decide +kernel
theorem dX6_nextList_38 : decode cX6_nextList 38 = .ok (.iconst 1, 1) := by decide +kernel
theorem dX6_nextList_39 : decode cX6_nextList 39 = .ok (.isub, 1) := by decide +kernel
theorem dX6_nextList_40 : decode cX6_nextList 40 = .ok (.istore_n 3, 1) := by decide +kernel
theorem dX6_nextList_41 : decode cX6_nextList 41 = .ok (.aload_n 0, 1) := by decide +kernel
theorem dX6_nextList_42 : decode cX6_nextList 42 = .ok (.iload_n 3, 1) := by decide +kernel
theorem dX6_nextList_43 : decode cX6_nextList 43 = .ok (.invokevirtual 120, 3) := by decide +kernel
theorem dX6_nextList_46 : decode cX6_nextList 46 = .ok (.ifCond .eq 18, 3) := by decide +kernel
theorem dX6_nextList_49 : decode cX6_nextList 49 = .ok (.iload_n 1, 1) := by decide +kernel
theorem dX6_nextList_50 : decode cX6_nextList 50 = .ok (.ifCond .lt 12, 3) := by decide +kernel
theorem dX6_nextList_53 : decode cX6_nextList 53 = .ok (.aload_n 0, 1) := by decide +kernel
theorem dX6_nextList_54 : decode cX6_nextList 54 = .ok (.iload_n 3, 1) := by decide +kernel
theorem dX6_nextList_55 : decode cX6_nextList 55 = .ok (.iload_n 1, 1) := by decide +kernel
theorem dX6_nextList_56 : decode cX6_nextList 56 = .ok (.invokevirtual 135, 3) := by decide +kernel
theorem dX6_nextList_59 : decode cX6_nextList 59 = .ok (.ifCond .eq 5, 3) := by decide +kernel
theorem dX6_nextList_62 : decode cX6_nextList 62 = .ok (.iload_n 3, 1) := by decide +kernel
theorem dX6_nextList_63 : decode cX6_nextList 63 = .ok (.istore_n 1, 1) := by decide +kernel
theorem dX6_nextList_64 : decode cX6_nextList 64 = .ok (.iinc 2 1, 3) := by decide +kernel
theorem dX6_nextList_67 : decode cX6_nextList 67 = .ok (.goto (-63), 3) := by decide +kernel
theorem dX6_nextList_70 : decode cX6_nextList 70 = .ok (.iload_n 1, 1) := by decide +kernel
theorem dX6_nextList_71 : decode cX6_nextList 71 = .ok (.ireturn, 1) := by decide +kernel
theorem dX6_isChosenBefore_0 : decode cX6_isChosenBefore 0 = .ok (.aload_n 0, 1) := by decide +kernel
theorem dX6_isChosenBefore_1 : decode cX6_isChosenBefore 1 = .ok (.getfield 7, 3) := by decide +kernel
theorem dX6_isChosenBefore_4 : decode cX6_isChosenBefore 4 = .ok (.sipush 560, 3) := by decide +kernel
theorem dX6_isChosenBefore_7 : decode cX6_isChosenBefore 7 = .ok (.iaload, 1) := by decide +kernel
theorem dX6_isChosenBefore_8 : decode cX6_isChosenBefore 8 = .ok (.ifCond .ne 5, 3) := by decide +kernel
theorem dX6_isChosenBefore_11 : decode cX6_isChosenBefore 11 = .ok (.iconst 0, 1) := by decide +kernel
theorem dX6_isChosenBefore_12 : decode cX6_isChosenBefore 12 = .ok (.ireturn, 1) := by decide +kernel
theorem dX6_isChosenBefore_13 : decode cX6_isChosenBefore 13 = .ok (.aload_n 0, 1) := by decide +kernel
theorem dX6_isChosenBefore_14 : decode cX6_isChosenBefore 14 = .ok (.getfield 7, 3) := by decide +kernel
theorem dX6_isChosenBefore_17 : decode cX6_isChosenBefore 17 = .ok (.sipush 560, 3) := by decide +kernel
theorem dX6_isChosenBefore_20 : decode cX6_isChosenBefore 20 = .ok (.iaload, 1) := by decide +kernel
theorem dX6_isChosenBefore_21 : decode cX6_isChosenBefore 21 = .ok (.iconst 1, 1) := by decide +kernel
theorem dX6_isChosenBefore_22 : decode cX6_isChosenBefore 22 = .ok (.if_icmp .ne 46, 3) := by decide +kernel
theorem dX6_isChosenBefore_25 : decode cX6_isChosenBefore 25 = .ok (.aload_n 0, 1) := by decide +kernel
theorem dX6_isChosenBefore_26 : decode cX6_isChosenBefore 26 = .ok (.getfield 7, 3) := by decide +kernel
theorem dX6_isChosenBefore_29 : decode cX6_isChosenBefore 29 = .ok (.sipush 486, 3) := by decide +kernel
theorem dX6_isChosenBefore_32 : decode cX6_isChosenBefore 32 = .ok (.iload_n 1, 1) := by decide +kernel
theorem dX6_isChosenBefore_33 : decode cX6_isChosenBefore 33 = .ok (.iadd, 1) := by decide +kernel
theorem dX6_isChosenBefore_34 : decode cX6_isChosenBefore 34 = .ok (.iaload, 1) := by decide +kernel
theorem dX6_isChosenBefore_35 : decode cX6_isChosenBefore 35 = .ok (.aload_n 0, 1) := by decide +kernel
theorem dX6_isChosenBefore_36 : decode cX6_isChosenBefore 36 = .ok (.iload_n 1, 1) := by decide +kernel
theorem dX6_isChosenBefore_37 : decode cX6_isChosenBefore 37 = .ok (.invokevirtual 101, 3) := by decide +kernel
theorem dX6_isChosenBefore_40 : decode cX6_isChosenBefore 40 = .ok (.imul, 1) := by decide +kernel
theorem dX6_isChosenBefore_41 : decode cX6_isChosenBefore 41 = .ok (.aload_n 0, 1) := by decide +kernel
theorem dX6_isChosenBefore_42 : decode cX6_isChosenBefore 42 = .ok (.getfield 7, 3) := by decide +kernel
theorem dX6_isChosenBefore_45 : decode cX6_isChosenBefore 45 = .ok (.sipush 486, 3) := by decide +kernel
theorem dX6_isChosenBefore_48 : decode cX6_isChosenBefore 48 = .ok (.iload_n 2, 1) := by decide +kernel
theorem dX6_isChosenBefore_49 : decode cX6_isChosenBefore 49 = .ok (.iadd, 1) := by decide +kernel
theorem dX6_isChosenBefore_50 : decode cX6_isChosenBefore 50 = .ok (.iaload, 1) := by decide +kernel
theorem dX6_isChosenBefore_51 : decode cX6_isChosenBefore 51 = .ok (.aload_n 0, 1) := by decide +kernel
theorem dX6_isChosenBefore_52 : decode cX6_isChosenBefore 52 = .ok (.iload_n 2, 1) := by decide +kernel
theorem dX6_isChosenBefore_53 : decode cX6_isChosenBefore 53 = .ok (.invokevirtual 101, 3) := by decide +kernel
theorem dX6_isChosenBefore_56 : decode cX6_isChosenBefore 56 = .ok (.imul, 1) := by decide +kernel
theorem dX6_isChosenBefore_57 : decode cX6_isChosenBefore 57 = .ok (.if_icmp .le 7, 3) := by decide +kernel
theorem dX6_isChosenBefore_60 : decode cX6_isChosenBefore 60 = .ok (.iconst 1, 1) := by decide +kernel
theorem dX6_isChosenBefore_61 : decode cX6_isChosenBefore 61 = .ok (.goto 25, 3) := by decide +kernel
theorem dX6_isChosenBefore_64 : decode cX6_isChosenBefore 64 = .ok (.iconst 0, 1) := by decide +kernel
theorem dX6_isChosenBefore_65 : decode cX6_isChosenBefore 65 = .ok (.goto 21, 3) := by decide +kernel
theorem dX6_isChosenBefore_68 : decode cX6_isChosenBefore 68 = .ok (.aload_n 0, 1) := by decide +kernel
theorem dX6_isChosenBefore_69 : decode cX6_isChosenBefore 69 = .ok (.iload_n 1, 1) := by decide +kernel
theorem dX6_isChosenBefore_70 : decode cX6_isChosenBefore 70 = .ok (.invokevirtual 95, 3) := by decide +kernel
theorem dX6_isChosenBefore_73 : decode cX6_isChosenBefore 73 = .ok (.aload_n 0, 1) := by decide +kernel
theorem dX6_isChosenBefore_74 : decode cX6_isChosenBefore 74 = .ok (.iload_n 2, 1) := by decide +kernel
theorem dX6_isChosenBefore_75 : decode cX6_isChosenBefore 75 = .ok (.invokevirtual 95, 3) := by decide +kernel
theorem dX6_isChosenBefore_78 : decode cX6_isChosenBefore 78 = .ok (.if_icmp .ge 7, 3) := by decide +kernel
theorem dX6_isChosenBefore_81 : decode cX6_isChosenBefore 81 = .ok (.iconst 1, 1) := by decide +kernel
theorem dX6_isChosenBefore_82 : decode cX6_isChosenBefore 82 = .ok (.goto 4, 3) := by decide +kernel
theorem dX6_isChosenBefore_85 : decode cX6_isChosenBefore 85 = .ok (.iconst 0, 1) := by decide +kernel
theorem dX6_isChosenBefore_86 : decode cX6_isChosenBefore 86 = .ok (.ireturn, 1) := by decide +kernel
theorem dX6_startReading_0 : decode cX6_startReading 0 = .ok (.aload_n 0, 1) := by decide +kernel
theorem dX6_startReading_1 : decode cX6_startReading 1 = .ok (.getfield 7, 3) := by decide +kernel
theorem dX6_startReading_4 : decode cX6_startReading 4 = .ok (.sipush 559, 3) := by decide +kernel
theorem dX6_startReading_7 : decode cX6_startReading 7 = .ok (.iconst 1, 1) := by decide +kernel
theorem dX6_startReading_8 : decode cX6_startReading 8 = .ok (.iastore, 1) := by decide +kernel
theorem dX6_startReading_9 : decode cX6_startReading 9 = .ok (.aload_n 0, 1) := by decide +kernel
theorem dX6_startReading_10 : decode cX6_startReading 10 = .ok (.getfield 7, 3) := by decide +kernel
theorem dX6_startReading_13 : decode cX6_startReading 13 = .ok (.sipush 560, 3) := by decide +kernel
theorem dX6_startReading_16 : decode cX6_startReading 16 = .ok (.iload_n 1, 1) := by decide +kernel
theorem dX6_startReading_17 : decode cX6_startReading 17 = .ok (.iastore, 1) := by decide +kernel
theorem dX6_startReading_18 : decode cX6_startReading 18 = .ok (.aload_n 0, 1) := by decide +kernel
theorem dX6_startReading_19 : decode cX6_startReading 19 = .ok (.getfield 7, 3) := by decide +kernel
theorem dX6_startReading_22 : decode cX6_startReading 22 = .ok (.sipush 561, 3) := by decide +kernel
theorem dX6_startReading_25 : decode cX6_startReading 25 = .ok (.iload_n 2, 1) := by decide +kernel
theorem dX6_startReading_26 : decode cX6_startReading 26 = .ok (.ifCond .eq 7, 3) := by decide +kernel
theorem dX6_startReading_29 : decode cX6_startReading 29 = .ok (.iconst 1, 1) := by decide +kernel
theorem dX6_startReading_30 : decode cX6_startReading 30 = .ok (.goto 4, 3) := by decide +kernel
theorem dX6_startReading_33 : decode cX6_startReading 33 = .ok (.iconst 0, 1) := by decide +kernel
theorem dX6_startReading_34 : decode cX6_startReading 34 = .ok (.iastore, 1) := by decide +kernel
theorem dX6_startReading_35 : decode cX6_startReading 35 = .ok (.aload_n 0, 1) := by decide +kernel
theorem dX6_startReading_36 : decode cX6_startReading 36 = .ok (.getfield 7, 3) := by decide +kernel
theorem dX6_startReading_39 : decode cX6_startReading 39 = .ok (.sipush 563, 3) := by decide +kernel
theorem dX6_startReading_42 : decode cX6_startReading 42 = .ok (.iconst (-1), 1) := by decide +kernel
theorem dX6_startReading_43 : decode cX6_startReading 43 = .ok (.iastore, 1) := by decide +kernel
theorem dX6_startReading_44 : decode cX6_startReading 44 = .ok (.aload_n 0, 1) := by decide +kernel
theorem dX6_startReading_45 : decode cX6_startReading 45 = .ok (.getfield 7, 3) := by decide +kernel
theorem dX6_startReading_48 : decode cX6_startReading 48 = .ok (.sipush 564, 3) := by decide +kernel
theorem dX6_startReading_51 : decode cX6_startReading 51 = .ok (.iconst 0, 1) := by decide +kernel
theorem dX6_startReading_52 : decode cX6_startReading 52 = .ok (.iastore, 1) := by decide +kernel
theorem dX6_startReading_53 : decode cX6_startReading 53 = .ok (.aload_n 0, 1) := by decide +kernel
theorem dX6_startReading_54 : decode cX6_startReading 54 = .ok (.getfield 7, 3) := by decide +kernel
theorem dX6_startReading_57 : decode cX6_startReading 57 = .ok (.sipush 565, 3) := by decide +kernel
theorem dX6_startReading_60 : decode cX6_startReading 60 = .ok (.iconst 0, 1) := by decide +kernel
theorem dX6_startReading_61 : decode cX6_startReading 61 = .ok (.iastore, 1) := by decide +kernel
theorem dX6_startReading_62 : decode cX6_startReading 62 = .ok (.iconst 0, 1) := by decide +kernel
theorem dX6_startReading_63 : decode cX6_startReading 63 = .ok (.istore_n 3, 1) := by decide +kernel
theorem dX6_startReading_64 : decode cX6_startReading 64 = .ok (.iload_n 3, 1) := by decide +kernel
theorem dX6_startReading_65 : decode cX6_startReading 65 = .ok (.bipush 6, 2) := by decide +kernel
theorem dX6_startReading_67 : decode cX6_startReading 67 = .ok (.if_icmp .ge 42, 3) := by decide +kernel
theorem dX6_startReading_70 : decode cX6_startReading 70 = .ok (.aload_n 0, 1) := by decide +kernel
theorem dX6_startReading_71 : decode cX6_startReading 71 = .ok (.getfield 7, 3) := by decide +kernel
theorem dX6_startReading_74 : decode cX6_startReading 74 = .ok (.sipush 568, 3) := by decide +kernel
theorem dX6_startReading_77 : decode cX6_startReading 77 = .ok (.iload_n 3, 1) := by decide +kernel
theorem dX6_startReading_78 : decode cX6_startReading 78 = .ok (.iadd, 1) := by decide +kernel
theorem dX6_startReading_79 : decode cX6_startReading 79 = .ok (.iconst 0, 1) := by decide +kernel
theorem dX6_startReading_80 : decode cX6_startReading 80 = .ok (.iastore, 1) := by decide +kernel
theorem dX6_startReading_81 : decode cX6_startReading 81 = .ok (.aload_n 0, 1) := by decide +kernel
theorem dX6_startReading_82 : decode cX6_startReading 82 = .ok (.getfield 7, 3) := by decide +kernel
theorem dX6_startReading_85 : decode cX6_startReading 85 = .ok (.sipush 574, 3) := by decide +kernel
theorem dX6_startReading_88 : decode cX6_startReading 88 = .ok (.iload_n 3, 1) := by decide +kernel
theorem dX6_startReading_89 : decode cX6_startReading 89 = .ok (.iadd, 1) := by decide +kernel
theorem dX6_startReading_90 : decode cX6_startReading 90 = .ok (.iconst 0, 1) := by decide +kernel
theorem dX6_startReading_91 : decode cX6_startReading 91 = .ok (.iastore, 1) := by decide +kernel
theorem dX6_startReading_92 : decode cX6_startReading 92 = .ok (.aload_n 0, 1) := by decide +kernel
theorem dX6_startReading_93 : decode cX6_startReading 93 = .ok (.getfield 7, 3) := by decide +kernel
theorem dX6_startReading_96 : decode cX6_startReading 96 = .ok (.sipush 580, 3) := by decide +kernel
theorem dX6_startReading_99 : decode cX6_startReading 99 = .ok (.iload_n 3, 1) := by decide +kernel
theorem dX6_startReading_100 : decode cX6_startReading 100 = .ok (.iadd, 1) := by decide +kernel
theorem dX6_startReading_101 : decode cX6_startReading 101 = .ok (.iconst 0, 1) := by decide +kernel
theorem dX6_startReading_102 : decode cX6_startReading 102 = .ok (.iastore, 1) := by decide +kernel
theorem dX6_startReading_103 : decode cX6_startReading 103 = .ok (.iinc 3 1, 3) := by decide +kernel
theorem dX6_startReading_106 : decode cX6_startReading 106 = .ok (.goto (-42), 3) := by decide +kernel
theorem dX6_startReading_109 : decode cX6_startReading 109 = .ok (.iconst 0, 1) := by decide +kernel
theorem dX6_startReading_110 : decode cX6_startReading 110 = .ok (.istore_n 3, 1) := by decide +kernel
theorem dX6_startReading_111 : decode cX6_startReading 111 = .ok (.iload_n 3, 1) := by decide +kernel
theorem dX6_startReading_112 : decode cX6_startReading 112 = .ok (.bipush 60, 2) := by decide +kernel
theorem dX6_startReading_114 : decode cX6_startReading 114 = .ok (.if_icmp .ge 31, 3) := by decide +kernel
theorem dX6_startReading_117 : decode cX6_startReading 117 = .ok (.aload_n 0, 1) := by decide +kernel
theorem dX6_startReading_118 : decode cX6_startReading 118 = .ok (.getfield 7, 3) := by decide +kernel
theorem dX6_startReading_121 : decode cX6_startReading 121 = .ok (.sipush 586, 3) := by decide +kernel
theorem dX6_startReading_124 : decode cX6_startReading 124 = .ok (.iload_n 3, 1) := by decide +kernel
theorem dX6_startReading_125 : decode cX6_startReading 125 = .ok (.iadd, 1) := by decide +kernel
theorem dX6_startReading_126 : decode cX6_startReading 126 = .ok (.iconst 0, 1) := by decide +kernel
theorem dX6_startReading_127 : decode cX6_startReading 127 = .ok (.iastore, 1) := by decide +kernel
theorem dX6_startReading_128 : decode cX6_startReading 128 = .ok (.aload_n 0, 1) := by decide +kernel
theorem dX6_startReading_129 : decode cX6_startReading 129 = .ok (.getfield 7, 3) := by decide +kernel
theorem dX6_startReading_132 : decode cX6_startReading 132 = .ok (.sipush 646, 3) := by decide +kernel
theorem dX6_startReading_135 : decode cX6_startReading 135 = .ok (.iload_n 3, 1) := by decide +kernel
theorem dX6_startReading_136 : decode cX6_startReading 136 = .ok (.iadd, 1) := by decide +kernel
theorem dX6_startReading_137 : decode cX6_startReading 137 = .ok (.iconst 0, 1) := by decide +kernel
theorem dX6_startReading_138 : decode cX6_startReading 138 = .ok (.iastore, 1) := by decide +kernel
theorem dX6_startReading_139 : decode cX6_startReading 139 = .ok (.iinc 3 1, 3) := by decide +kernel
theorem dX6_startReading_142 : decode cX6_startReading 142 = .ok (.goto (-31), 3) := by decide +kernel
theorem dX6_startReading_145 : decode cX6_startReading 145 = .ok (.aload_n 0, 1) := by decide +kernel
theorem dX6_startReading_146 : decode cX6_startReading 146 = .ok (.getfield 7, 3) := by decide +kernel
theorem dX6_startReading_149 : decode cX6_startReading 149 = .ok (.sipush 562, 3) := by decide +kernel
theorem dX6_startReading_152 : decode cX6_startReading 152 = .ok (.aload_n 0, 1) := by decide +kernel
theorem dX6_startReading_153 : decode cX6_startReading 153 = .ok (.invokevirtual 138, 3) := by decide +kernel
theorem dX6_startReading_156 : decode cX6_startReading 156 = .ok (.ifCond .eq 7, 3) := by decide +kernel
theorem dX6_startReading_159 : decode cX6_startReading 159 = .ok (.iconst 1, 1) := by decide +kernel
theorem dX6_startReading_160 : decode cX6_startReading 160 = .ok (.goto 4, 3) := by decide +kernel
theorem dX6_startReading_163 : decode cX6_startReading 163 = .ok (.iconst 0, 1) := by decide +kernel
theorem dX6_startReading_164 : decode cX6_startReading 164 = .ok (.iastore, 1) := by decide +kernel
theorem dX6_startReading_165 : decode cX6_startReading 165 = .ok (.return_, 1) := by decide +kernel
theorem dX6_oneStep_0 : decode cX6_oneStep 0 = .ok (.aload_n 0, 1) := by decide +kernel
theorem dX6_oneStep_1 : decode cX6_oneStep 1 = .ok (.invokevirtual 142, 3) := by decide +kernel
theorem dX6_oneStep_4 : decode cX6_oneStep 4 = .ok (.istore_n 1, 1) := by decide +kernel
theorem dX6_oneStep_5 : decode cX6_oneStep 5 = .ok (.aload_n 0, 1) := by decide +kernel
theorem dX6_oneStep_6 : decode cX6_oneStep 6 = .ok (.getfield 7, 3) := by decide +kernel
theorem dX6_oneStep_9 : decode cX6_oneStep 9 = .ok (.iconst 0, 1) := by decide +kernel
theorem dX6_oneStep_10 : decode cX6_oneStep 10 = .ok (.bipush 40, 2) := by decide +kernel
theorem dX6_oneStep_12 : decode cX6_oneStep 12 = .ok (.iload_n 1, 1) := by decide +kernel
theorem dX6_oneStep_13 : decode cX6_oneStep 13 = .ok (.imul, 1) := by decide +kernel
theorem dX6_oneStep_14 : decode cX6_oneStep 14 = .ok (.iadd, 1) := by decide +kernel
theorem dX6_oneStep_15 : decode cX6_oneStep 15 = .ok (.aload_n 0, 1) := by decide +kernel
theorem dX6_oneStep_16 : decode cX6_oneStep 16 = .ok (.getfield 7, 3) := by decide +kernel
theorem dX6_oneStep_19 : decode cX6_oneStep 19 = .ok (.sipush 568, 3) := by decide +kernel
theorem dX6_oneStep_22 : decode cX6_oneStep 22 = .ok (.iload_n 1, 1) := by decide +kernel
theorem dX6_oneStep_23 : decode cX6_oneStep 23 = .ok (.iadd, 1) := by decide +kernel
theorem dX6_oneStep_24 : decode cX6_oneStep 24 = .ok (.iaload, 1) := by decide +kernel
theorem dX6_oneStep_25 : decode cX6_oneStep 25 = .ok (.iadd, 1) := by decide +kernel
theorem dX6_oneStep_26 : decode cX6_oneStep 26 = .ok (.iaload, 1) := by decide +kernel
theorem dX6_oneStep_27 : decode cX6_oneStep 27 = .ok (.istore_n 2, 1) := by decide +kernel
theorem dX6_oneStep_28 : decode cX6_oneStep 28 = .ok (.aload_n 0, 1) := by decide +kernel
theorem dX6_oneStep_29 : decode cX6_oneStep 29 = .ok (.iload_n 1, 1) := by decide +kernel
theorem dX6_oneStep_30 : decode cX6_oneStep 30 = .ok (.invokevirtual 98, 3) := by decide +kernel
theorem dX6_oneStep_33 : decode cX6_oneStep 33 = .ok (.aload_n 0, 1) := by decide +kernel
theorem dX6_oneStep_34 : decode cX6_oneStep 34 = .ok (.iload_n 1, 1) := by decide +kernel
theorem dX6_oneStep_35 : decode cX6_oneStep 35 = .ok (.invokevirtual 101, 3) := by decide +kernel
theorem dX6_oneStep_38 : decode cX6_oneStep 38 = .ok (.if_icmp .le 26, 3) := by decide +kernel
theorem dX6_oneStep_41 : decode cX6_oneStep 41 = .ok (.aload_n 0, 1) := by decide +kernel
theorem dX6_oneStep_42 : decode cX6_oneStep 42 = .ok (.getfield 7, 3) := by decide +kernel
theorem dX6_oneStep_45 : decode cX6_oneStep 45 = .ok (.sipush 574, 3) := by decide +kernel
theorem dX6_oneStep_48 : decode cX6_oneStep 48 = .ok (.iload_n 1, 1) := by decide +kernel
theorem dX6_oneStep_49 : decode cX6_oneStep 49 = .ok (.iadd, 1) := by decide +kernel
theorem dX6_oneStep_50 : decode cX6_oneStep 50 = .ok (.iconst 1, 1) := by decide +kernel
theorem dX6_oneStep_51 : decode cX6_oneStep 51 = .ok (.iastore, 1) := by decide +kernel
theorem dX6_oneStep_52 : decode cX6_oneStep 52 = .ok (.aload_n 0, 1) := by decide +kernel
theorem dX6_oneStep_53 : decode cX6_oneStep 53 = .ok (.getfield 7, 3) := by decide +kernel
theorem dX6_oneStep_56 : decode cX6_oneStep 56 = .ok (.sipush 567, 3) := by decide +kernel
theorem dX6_oneStep_59 : decode cX6_oneStep 59 = .ok (.dup2, 1) := by decide +kernel
theorem dX6_oneStep_60 : decode cX6_oneStep 60 = .ok (.iaload, 1) := by decide +kernel
theorem dX6_oneStep_61 : decode cX6_oneStep 61 = .ok (.iconst 1, 1) := by decide +kernel
theorem dX6_oneStep_62 : decode cX6_oneStep 62 = .ok (.iadd, 1) := by decide +kernel
theorem dX6_oneStep_63 : decode cX6_oneStep 63 = .ok (.iastore, 1) := by decide +kernel
theorem dX6_oneStep_64 : decode cX6_oneStep 64 = .ok (.aload_n 0, 1) := by decide +kernel
theorem dX6_oneStep_65 : decode cX6_oneStep 65 = .ok (.getfield 7, 3) := by decide +kernel
theorem dX6_oneStep_68 : decode cX6_oneStep 68 = .ok (.sipush 568, 3) := by decide +kernel
theorem dX6_oneStep_71 : decode cX6_oneStep 71 = .ok (.iload_n 1, 1) := by decide +kernel
theorem dX6_oneStep_72 : decode cX6_oneStep 72 = .ok (.iadd, 1) := by decide +kernel
theorem dX6_oneStep_73 : decode cX6_oneStep 73 = .ok (.dup2, 1) := by decide +kernel
theorem dX6_oneStep_74 : decode cX6_oneStep 74 = .ok (.iaload, 1) := by decide +kernel
theorem dX6_oneStep_75 : decode cX6_oneStep 75 = .ok (.iconst 1, 1) := by decide +kernel
theorem dX6_oneStep_76 : decode cX6_oneStep 76 = .ok (.iadd, 1) := by decide +kernel
theorem dX6_oneStep_77 : decode cX6_oneStep 77 = .ok (.iastore, 1) := by decide +kernel
theorem dX6_oneStep_78 : decode cX6_oneStep 78 = .ok (.aload_n 0, 1) := by decide +kernel
theorem dX6_oneStep_79 : decode cX6_oneStep 79 = .ok (.getfield 7, 3) := by decide +kernel
theorem dX6_oneStep_82 : decode cX6_oneStep 82 = .ok (.sipush 563, 3) := by decide +kernel
theorem dX6_oneStep_85 : decode cX6_oneStep 85 = .ok (.iload_n 1, 1) := by decide +kernel
theorem dX6_oneStep_86 : decode cX6_oneStep 86 = .ok (.iastore, 1) := by decide +kernel
theorem dX6_oneStep_87 : decode cX6_oneStep 87 = .ok (.aload_n 0, 1) := by decide +kernel
theorem dX6_oneStep_88 : decode cX6_oneStep 88 = .ok (.getfield 7, 3) := by decide +kernel
theorem dX6_oneStep_91 : decode cX6_oneStep 91 = .ok (.sipush 498, 3) := by decide +kernel
theorem dX6_oneStep_94 : decode cX6_oneStep 94 = .ok (.iload_n 2, 1) := by decide +kernel
theorem dX6_oneStep_95 : decode cX6_oneStep 95 = .ok (.iadd, 1) := by decide +kernel
theorem dX6_oneStep_96 : decode cX6_oneStep 96 = .ok (.iaload, 1) := by decide +kernel
theorem dX6_oneStep_97 : decode cX6_oneStep 97 = .ok (.iconst 1, 1) := by decide +kernel
theorem dX6_oneStep_98 : decode cX6_oneStep 98 = .ok (.if_icmp .ne 18, 3) := by decide +kernel
theorem dX6_oneStep_101 : decode cX6_oneStep 101 = .ok (.aload_n 0, 1) := by decide +kernel
theorem dX6_oneStep_102 : decode cX6_oneStep 102 = .ok (.getfield 7, 3) := by decide +kernel
theorem dX6_oneStep_105 : decode cX6_oneStep 105 = .ok (.sipush 565, 3) := by decide +kernel
theorem dX6_oneStep_108 : decode cX6_oneStep 108 = .ok (.dup2, 1) := by decide +kernel
theorem dX6_oneStep_109 : decode cX6_oneStep 109 = .ok (.iaload, 1) := by decide +kernel
theorem dX6_oneStep_110 : decode cX6_oneStep 110 = .ok (.iconst 1, 1) := by decide +kernel
theorem dX6_oneStep_111 : decode cX6_oneStep 111 = .ok (.iadd, 1) := by decide +kernel
theorem dX6_oneStep_112 : decode cX6_oneStep 112 = .ok (.iastore, 1) := by decide +kernel
theorem dX6_oneStep_113 : decode cX6_oneStep 113 = .ok (.goto 9, 3) := by decide +kernel
theorem dX6_oneStep_116 : decode cX6_oneStep 116 = .ok (.aload_n 0, 1) := by decide +kernel
theorem dX6_oneStep_117 : decode cX6_oneStep 117 = .ok (.iload_n 1, 1) := by decide +kernel
theorem dX6_oneStep_118 : decode cX6_oneStep 118 = .ok (.iload_n 2, 1) := by decide +kernel
theorem dX6_oneStep_119 : decode cX6_oneStep 119 = .ok (.invokevirtual 145, 3) := by decide +kernel
theorem dX6_oneStep_122 : decode cX6_oneStep 122 = .ok (.aload_n 0, 1) := by decide +kernel
theorem dX6_oneStep_123 : decode cX6_oneStep 123 = .ok (.getfield 7, 3) := by decide +kernel
theorem dX6_oneStep_126 : decode cX6_oneStep 126 = .ok (.sipush 564, 3) := by decide +kernel
theorem dX6_oneStep_129 : decode cX6_oneStep 129 = .ok (.dup2, 1) := by decide +kernel
theorem dX6_oneStep_130 : decode cX6_oneStep 130 = .ok (.iaload, 1) := by decide +kernel
theorem dX6_oneStep_131 : decode cX6_oneStep 131 = .ok (.iconst 1, 1) := by decide +kernel
theorem dX6_oneStep_132 : decode cX6_oneStep 132 = .ok (.iadd, 1) := by decide +kernel
theorem dX6_oneStep_133 : decode cX6_oneStep 133 = .ok (.iastore, 1) := by decide +kernel
theorem dX6_oneStep_134 : decode cX6_oneStep 134 = .ok (.aload_n 0, 1) := by decide +kernel
theorem dX6_oneStep_135 : decode cX6_oneStep 135 = .ok (.getfield 7, 3) := by decide +kernel
theorem dX6_oneStep_138 : decode cX6_oneStep 138 = .ok (.sipush 562, 3) := by decide +kernel
theorem dX6_oneStep_141 : decode cX6_oneStep 141 = .ok (.aload_n 0, 1) := by decide +kernel
theorem dX6_oneStep_142 : decode cX6_oneStep 142 = .ok (.invokevirtual 138, 3) := by decide +kernel
theorem dX6_oneStep_145 : decode cX6_oneStep 145 = .ok (.ifCond .eq 7, 3) := by decide +kernel
theorem dX6_oneStep_148 : decode cX6_oneStep 148 = .ok (.iconst 1, 1) := by decide +kernel
theorem dX6_oneStep_149 : decode cX6_oneStep 149 = .ok (.goto 4, 3) := by decide +kernel
theorem dX6_oneStep_152 : decode cX6_oneStep 152 = .ok (.iconst 0, 1) := by decide +kernel
theorem dX6_oneStep_153 : decode cX6_oneStep 153 = .ok (.iastore, 1) := by decide +kernel
theorem dX6_oneStep_154 : decode cX6_oneStep 154 = .ok (.return_, 1) := by decide +kernel
theorem dX6_sees_0 : decode cX6_sees 0 = .ok (.aload_n 0, 1) := by decide +kernel
theorem dX6_sees_1 : decode cX6_sees 1 = .ok (.iload_n 2, 1) := by decide +kernel
theorem dX6_sees_2 : decode cX6_sees 2 = .ok (.invokevirtual 108, 3) := by decide +kernel
theorem dX6_sees_5 : decode cX6_sees 5 = .ok (.ifCond .ne 7, 3) := by decide +kernel
theorem dX6_sees_8 : decode cX6_sees 8 = .ok (.iconst 1, 1) := by decide +kernel
theorem dX6_sees_9 : decode cX6_sees 9 = .ok (.goto 4, 3) := by decide +kernel
theorem dX6_sees_12 : decode cX6_sees 12 = .ok (.iconst 0, 1) := by decide +kernel
theorem dX6_sees_13 : decode cX6_sees 13 = .ok (.istore_n 3, 1) := by decide +kernel
theorem dX6_sees_14 : decode cX6_sees 14 = .ok (.aload_n 0, 1) := by decide +kernel
theorem dX6_sees_15 : decode cX6_sees 15 = .ok (.getfield 7, 3) := by decide +kernel
theorem dX6_sees_18 : decode cX6_sees 18 = .ok (.sipush 646, 3) := by decide +kernel
theorem dX6_sees_21 : decode cX6_sees 21 = .ok (.iload_n 2, 1) := by decide +kernel
theorem dX6_sees_22 : decode cX6_sees 22 = .ok (.iadd, 1) := by decide +kernel
theorem dX6_sees_23 : decode cX6_sees 23 = .ok (.dup2, 1) := by decide +kernel
theorem dX6_sees_24 : decode cX6_sees 24 = .ok (.iaload, 1) := by decide +kernel
theorem dX6_sees_25 : decode cX6_sees 25 = .ok (.iconst 1, 1) := by decide +kernel
theorem dX6_sees_26 : decode cX6_sees 26 = .ok (.iload_n 1, 1) := by decide +kernel
theorem dX6_sees_27 : decode cX6_sees 27 = .ok (.ishl, 1) := by decide +kernel
theorem dX6_sees_28 : decode cX6_sees 28 = .ok (.ior, 1) := by decide +kernel
theorem dX6_sees_29 : decode cX6_sees 29 = .ok (.iastore, 1) := by decide +kernel
theorem dX6_sees_30 : decode cX6_sees 30 = .ok (.iload_n 3, 1) := by decide +kernel
theorem dX6_sees_31 : decode cX6_sees 31 = .ok (.ifCond .eq 23, 3) := by decide +kernel
theorem dX6_sees_34 : decode cX6_sees 34 = .ok (.aload_n 0, 1) := by decide +kernel
theorem dX6_sees_35 : decode cX6_sees 35 = .ok (.getfield 7, 3) := by decide +kernel
theorem dX6_sees_38 : decode cX6_sees 38 = .ok (.sipush 586, 3) := by decide +kernel
theorem dX6_sees_41 : decode cX6_sees 41 = .ok (.iload_n 2, 1) := by decide +kernel
theorem dX6_sees_42 : decode cX6_sees 42 = .ok (.iadd, 1) := by decide +kernel
theorem dX6_sees_43 : decode cX6_sees 43 = .ok (.aload_n 0, 1) := by decide +kernel
theorem dX6_sees_44 : decode cX6_sees 44 = .ok (.getfield 7, 3) := by decide +kernel
theorem dX6_sees_47 : decode cX6_sees 47 = .ok (.sipush 564, 3) := by decide +kernel
theorem dX6_sees_50 : decode cX6_sees 50 = .ok (.iaload, 1) := by decide +kernel
theorem dX6_sees_51 : decode cX6_sees 51 = .ok (.iconst 1, 1) := by decide +kernel
theorem dX6_sees_52 : decode cX6_sees 52 = .ok (.iadd, 1) := by decide +kernel
theorem dX6_sees_53 : decode cX6_sees 53 = .ok (.iastore, 1) := by decide +kernel
theorem dX6_sees_54 : decode cX6_sees 54 = .ok (.iconst 0, 1) := by decide +kernel
theorem dX6_sees_55 : decode cX6_sees 55 = .ok (.istore 4, 2) := by decide +kernel
theorem dX6_sees_57 : decode cX6_sees 57 = .ok (.iload 4, 2) := by decide +kernel
theorem dX6_sees_59 : decode cX6_sees 59 = .ok (.bipush 6, 2) := by decide +kernel
theorem dX6_sees_61 : decode cX6_sees 61 = .ok (.if_icmp .ge 72, 3) := by decide +kernel
theorem dX6_sees_64 : decode cX6_sees 64 = .ok (.iload_n 3, 1) := by decide +kernel
theorem dX6_sees_65 : decode cX6_sees 65 = .ok (.ifCond .eq 62, 3) := by decide +kernel
theorem dX6_sees_68 : decode cX6_sees 68 = .ok (.aload_n 0, 1) := by decide +kernel
theorem dX6_sees_69 : decode cX6_sees 69 = .ok (.getfield 7, 3) := by decide +kernel
theorem dX6_sees_72 : decode cX6_sees 72 = .ok (.sipush 561, 3) := by decide +kernel
theorem dX6_sees_75 : decode cX6_sees 75 = .ok (.iaload, 1) := by decide +kernel
theorem dX6_sees_76 : decode cX6_sees 76 = .ok (.iconst 1, 1) := by decide +kernel
theorem dX6_sees_77 : decode cX6_sees 77 = .ok (.if_icmp .ne 50, 3) := by decide +kernel
theorem dX6_sees_80 : decode cX6_sees 80 = .ok (.iload 4, 2) := by decide +kernel
theorem dX6_sees_82 : decode cX6_sees 82 = .ok (.iload_n 1, 1) := by decide +kernel
theorem dX6_sees_83 : decode cX6_sees 83 = .ok (.if_icmp .eq 44, 3) := by decide +kernel
theorem dX6_sees_86 : decode cX6_sees 86 = .ok (.aload_n 0, 1) := by decide +kernel
theorem dX6_sees_87 : decode cX6_sees 87 = .ok (.iload 4, 2) := by decide +kernel
theorem dX6_sees_89 : decode cX6_sees 89 = .ok (.invokevirtual 80, 3) := by decide +kernel
theorem dX6_sees_92 : decode cX6_sees 92 = .ok (.ifCond .eq 35, 3) := by decide +kernel
theorem dX6_sees_95 : decode cX6_sees 95 = .ok (.aload_n 0, 1) := by decide +kernel
theorem dX6_sees_96 : decode cX6_sees 96 = .ok (.getfield 7, 3) := by decide +kernel
theorem dX6_sees_99 : decode cX6_sees 99 = .ok (.sipush 580, 3) := by decide +kernel
theorem dX6_sees_102 : decode cX6_sees 102 = .ok (.iload 4, 2) := by decide +kernel
theorem dX6_sees_104 : decode cX6_sees 104 = .ok (.iadd, 1) := by decide +kernel
theorem dX6_sees_105 : decode cX6_sees 105 = .ok (.dup2, 1) := by decide +kernel
theorem dX6_sees_106 : decode cX6_sees 106 = .ok (.iaload, 1) := by decide +kernel
theorem dX6_sees_107 : decode cX6_sees 107 = .ok (.iconst 1, 1) := by decide +kernel
theorem dX6_sees_108 : decode cX6_sees 108 = .ok (.iadd, 1) := by decide +kernel
theorem dX6_sees_109 : decode cX6_sees 109 = .ok (.iastore, 1) := by decide +kernel
theorem dX6_sees_110 : decode cX6_sees 110 = .ok (.aload_n 0, 1) := by decide +kernel
theorem dX6_sees_111 : decode cX6_sees 111 = .ok (.getfield 7, 3) := by decide +kernel
theorem dX6_sees_114 : decode cX6_sees 114 = .ok (.sipush 646, 3) := by decide +kernel
theorem dX6_sees_117 : decode cX6_sees 117 = .ok (.iload_n 2, 1) := by decide +kernel
theorem dX6_sees_118 : decode cX6_sees 118 = .ok (.iadd, 1) := by decide +kernel
theorem dX6_sees_119 : decode cX6_sees 119 = .ok (.dup2, 1) := by decide +kernel
theorem dX6_sees_120 : decode cX6_sees 120 = .ok (.iaload, 1) := by decide +kernel
theorem dX6_sees_121 : decode cX6_sees 121 = .ok (.iconst 1, 1) := by decide +kernel
theorem dX6_sees_122 : decode cX6_sees 122 = .ok (.iload 4, 2) := by decide +kernel
theorem dX6_sees_124 : decode cX6_sees 124 = .ok (.ishl, 1) := by decide +kernel
theorem dX6_sees_125 : decode cX6_sees 125 = .ok (.ior, 1) := by decide +kernel
theorem dX6_sees_126 : decode cX6_sees 126 = .ok (.iastore, 1) := by decide +kernel
theorem dX6_sees_127 : decode cX6_sees 127 = .ok (.iinc 4 1, 3) := by decide +kernel
theorem dX6_sees_130 : decode cX6_sees 130 = .ok (.goto (-73), 3) := by decide +kernel
theorem dX6_sees_133 : decode cX6_sees 133 = .ok (.return_, 1) := by decide +kernel
theorem dX6_begin_0 : decode cX6_begin 0 = .ok (.iload_n 1, 1) := by decide +kernel
theorem dX6_begin_1 : decode cX6_begin 1 = .ok (.ifCond .lt 8, 3) := by decide +kernel
theorem dX6_begin_4 : decode cX6_begin 4 = .ok (.iload_n 1, 1) := by decide +kernel
theorem dX6_begin_5 : decode cX6_begin 5 = .ok (.iconst 2, 1) := by decide +kernel
theorem dX6_begin_6 : decode cX6_begin 6 = .ok (.if_icmp .le 6, 3) := by decide +kernel
theorem dX6_begin_9 : decode cX6_begin 9 = .ok (.bipush (-2), 2) := by decide +kernel
theorem dX6_begin_11 : decode cX6_begin 11 = .ok (.ireturn, 1) := by decide +kernel
theorem dX6_begin_12 : decode cX6_begin 12 = .ok (.aload_n 0, 1) := by decide +kernel
theorem dX6_begin_13 : decode cX6_begin 13 = .ok (.getfield 7, 3) := by decide +kernel
theorem dX6_begin_16 : decode cX6_begin 16 = .ok (.sipush 559, 3) := by decide +kernel
theorem dX6_begin_19 : decode cX6_begin 19 = .ok (.iaload, 1) := by decide +kernel
theorem dX6_begin_20 : decode cX6_begin 20 = .ok (.iconst 1, 1) := by decide +kernel
theorem dX6_begin_21 : decode cX6_begin 21 = .ok (.if_icmp .eq 10, 3) := by decide +kernel
theorem dX6_begin_24 : decode cX6_begin 24 = .ok (.aload_n 0, 1) := by decide +kernel
theorem dX6_begin_25 : decode cX6_begin 25 = .ok (.invokevirtual 148, 3) := by decide +kernel
theorem dX6_begin_28 : decode cX6_begin 28 = .ok (.ifCond .ne 6, 3) := by decide +kernel
theorem dX6_begin_31 : decode cX6_begin 31 = .ok (.bipush (-4), 2) := by decide +kernel
theorem dX6_begin_33 : decode cX6_begin 33 = .ok (.ireturn, 1) := by decide +kernel
theorem dX6_begin_34 : decode cX6_begin 34 = .ok (.aload_n 0, 1) := by decide +kernel
theorem dX6_begin_35 : decode cX6_begin 35 = .ok (.invokevirtual 44, 3) := by decide +kernel
theorem dX6_begin_38 : decode cX6_begin 38 = .ok (.aload_n 0, 1) := by decide +kernel
theorem dX6_begin_39 : decode cX6_begin 39 = .ok (.getfield 7, 3) := by decide +kernel
theorem dX6_begin_42 : decode cX6_begin 42 = .ok (.sipush 566, 3) := by decide +kernel
theorem dX6_begin_45 : decode cX6_begin 45 = .ok (.dup2, 1) := by decide +kernel
theorem dX6_begin_46 : decode cX6_begin 46 = .ok (.iaload, 1) := by decide +kernel
theorem dX6_begin_47 : decode cX6_begin 47 = .ok (.iconst 1, 1) := by decide +kernel
theorem dX6_begin_48 : decode cX6_begin 48 = .ok (.iadd, 1) := by decide +kernel
theorem dX6_begin_49 : decode cX6_begin 49 = .ok (.iastore, 1) := by decide +kernel
theorem dX6_begin_50 : decode cX6_begin 50 = .ok (.aload_n 0, 1) := by decide +kernel
theorem dX6_begin_51 : decode cX6_begin 51 = .ok (.iload_n 1, 1) := by decide +kernel
theorem dX6_begin_52 : decode cX6_begin 52 = .ok (.iload_n 2, 1) := by decide +kernel
theorem dX6_begin_53 : decode cX6_begin 53 = .ok (.invokevirtual 151, 3) := by decide +kernel
theorem dX6_begin_56 : decode cX6_begin 56 = .ok (.aload_n 0, 1) := by decide +kernel
theorem dX6_begin_57 : decode cX6_begin 57 = .ok (.getfield 7, 3) := by decide +kernel
theorem dX6_begin_60 : decode cX6_begin 60 = .ok (.sipush 562, 3) := by decide +kernel
theorem dX6_begin_63 : decode cX6_begin 63 = .ok (.iaload, 1) := by decide +kernel
theorem dX6_begin_64 : decode cX6_begin 64 = .ok (.ireturn, 1) := by decide +kernel
theorem dX6_step_0 : decode cX6_step 0 = .ok (.iload_n 1, 1) := by decide +kernel
theorem dX6_step_1 : decode cX6_step 1 = .ok (.iconst 1, 1) := by decide +kernel
theorem dX6_step_2 : decode cX6_step 2 = .ok (.if_icmp .lt 10, 3) := by decide +kernel
theorem dX6_step_5 : decode cX6_step 5 = .ok (.iload_n 1, 1) := by decide +kernel
theorem dX6_step_6 : decode cX6_step 6 = .ok (.sipush 240, 3) := by decide +kernel
theorem dX6_step_9 : decode cX6_step 9 = .ok (.if_icmp .le 6, 3) := by decide +kernel
theorem dX6_step_12 : decode cX6_step 12 = .ok (.bipush (-2), 2) := by decide +kernel
theorem dX6_step_14 : decode cX6_step 14 = .ok (.ireturn, 1) := by decide +kernel
theorem dX6_step_15 : decode cX6_step 15 = .ok (.aload_n 0, 1) := by decide +kernel
theorem dX6_step_16 : decode cX6_step 16 = .ok (.getfield 7, 3) := by decide +kernel
theorem dX6_step_19 : decode cX6_step 19 = .ok (.sipush 559, 3) := by decide +kernel
theorem dX6_step_22 : decode cX6_step 22 = .ok (.iaload, 1) := by decide +kernel
theorem dX6_step_23 : decode cX6_step 23 = .ok (.ifCond .ne 6, 3) := by decide +kernel
theorem dX6_step_26 : decode cX6_step 26 = .ok (.bipush (-4), 2) := by decide +kernel
theorem dX6_step_28 : decode cX6_step 28 = .ok (.ireturn, 1) := by decide +kernel
theorem dX6_step_29 : decode cX6_step 29 = .ok (.aload_n 0, 1) := by decide +kernel
theorem dX6_step_30 : decode cX6_step 30 = .ok (.getfield 7, 3) := by decide +kernel
theorem dX6_step_33 : decode cX6_step 33 = .ok (.sipush 562, 3) := by decide +kernel
theorem dX6_step_36 : decode cX6_step 36 = .ok (.iaload, 1) := by decide +kernel
theorem dX6_step_37 : decode cX6_step 37 = .ok (.iconst 1, 1) := by decide +kernel
theorem dX6_step_38 : decode cX6_step 38 = .ok (.if_icmp .ne 6, 3) := by decide +kernel
theorem dX6_step_41 : decode cX6_step 41 = .ok (.bipush (-5), 2) := by decide +kernel
theorem dX6_step_43 : decode cX6_step 43 = .ok (.ireturn, 1) := by decide +kernel
theorem dX6_step_44 : decode cX6_step 44 = .ok (.aload_n 0, 1) := by decide +kernel
theorem dX6_step_45 : decode cX6_step 45 = .ok (.invokevirtual 44, 3) := by decide +kernel
theorem dX6_step_48 : decode cX6_step 48 = .ok (.iconst 0, 1) := by decide +kernel
theorem dX6_step_49 : decode cX6_step 49 = .ok (.istore_n 2, 1) := by decide +kernel
theorem dX6_step_50 : decode cX6_step 50 = .ok (.iload_n 2, 1) := by decide +kernel
theorem dX6_step_51 : decode cX6_step 51 = .ok (.iload_n 1, 1) := by decide +kernel
theorem dX6_step_52 : decode cX6_step 52 = .ok (.if_icmp .ge 24, 3) := by decide +kernel
theorem dX6_step_55 : decode cX6_step 55 = .ok (.aload_n 0, 1) := by decide +kernel
theorem dX6_step_56 : decode cX6_step 56 = .ok (.getfield 7, 3) := by decide +kernel
theorem dX6_step_59 : decode cX6_step 59 = .ok (.sipush 562, 3) := by decide +kernel
theorem dX6_step_62 : decode cX6_step 62 = .ok (.iaload, 1) := by decide +kernel
theorem dX6_step_63 : decode cX6_step 63 = .ok (.ifCond .ne 13, 3) := by decide +kernel
theorem dX6_step_66 : decode cX6_step 66 = .ok (.aload_n 0, 1) := by decide +kernel
theorem dX6_step_67 : decode cX6_step 67 = .ok (.invokevirtual 155, 3) := by decide +kernel
theorem dX6_step_70 : decode cX6_step 70 = .ok (.iinc 2 1, 3) := by decide +kernel
theorem dX6_step_73 : decode cX6_step 73 = .ok (.goto (-23), 3) := by decide +kernel
theorem dX6_step_76 : decode cX6_step 76 = .ok (.iload_n 2, 1) := by decide +kernel
theorem dX6_step_77 : decode cX6_step 77 = .ok (.ireturn, 1) := by decide +kernel
theorem dX6_end_0 : decode cX6_end 0 = .ok (.aload_n 0, 1) := by decide +kernel
theorem dX6_end_1 : decode cX6_end 1 = .ok (.getfield 7, 3) := by decide +kernel
theorem dX6_end_4 : decode cX6_end 4 = .ok (.sipush 559, 3) := by decide +kernel
theorem dX6_end_7 : decode cX6_end 7 = .ok (.iaload, 1) := by decide +kernel
theorem dX6_end_8 : decode cX6_end 8 = .ok (.ifCond .ne 6, 3) := by decide +kernel
theorem dX6_end_11 : decode cX6_end 11 = .ok (.bipush (-4), 2) := by decide +kernel
theorem dX6_end_13 : decode cX6_end 13 = .ok (.ireturn, 1) := by decide +kernel
theorem dX6_end_14 : decode cX6_end 14 = .ok (.aload_n 0, 1) := by decide +kernel
theorem dX6_end_15 : decode cX6_end 15 = .ok (.invokevirtual 44, 3) := by decide +kernel
theorem dX6_end_18 : decode cX6_end 18 = .ok (.aload_n 0, 1) := by decide +kernel
theorem dX6_end_19 : decode cX6_end 19 = .ok (.invokevirtual 158, 3) := by decide +kernel
theorem dX6_end_22 : decode cX6_end 22 = .ok (.istore_n 1, 1) := by decide +kernel
theorem dX6_end_23 : decode cX6_end 23 = .ok (.aload_n 0, 1) := by decide +kernel
theorem dX6_end_24 : decode cX6_end 24 = .ok (.getfield 7, 3) := by decide +kernel
theorem dX6_end_27 : decode cX6_end 27 = .ok (.sipush 559, 3) := by decide +kernel
theorem dX6_end_30 : decode cX6_end 30 = .ok (.iconst 0, 1) := by decide +kernel
theorem dX6_end_31 : decode cX6_end 31 = .ok (.iastore, 1) := by decide +kernel
theorem dX6_end_32 : decode cX6_end 32 = .ok (.iload_n 1, 1) := by decide +kernel
theorem dX6_end_33 : decode cX6_end 33 = .ok (.ireturn, 1) := by decide +kernel
theorem dX6_clerk_0 : decode cX6_clerk 0 = .ok (.iload_n 1, 1) := by decide +kernel
theorem dX6_clerk_1 : decode cX6_clerk 1 = .ok (.invokestatic 51, 3) := by decide +kernel
theorem dX6_clerk_4 : decode cX6_clerk 4 = .ok (.ifCond .ne 5, 3) := by decide +kernel
theorem dX6_clerk_7 : decode cX6_clerk 7 = .ok (.iconst (-1), 1) := by decide +kernel
theorem dX6_clerk_8 : decode cX6_clerk 8 = .ok (.ireturn, 1) := by decide +kernel
theorem dX6_clerk_9 : decode cX6_clerk 9 = .ok (.iload_n 2, 1) := by decide +kernel
theorem dX6_clerk_10 : decode cX6_clerk 10 = .ok (.ifCond .lt 8, 3) := by decide +kernel
theorem dX6_clerk_13 : decode cX6_clerk 13 = .ok (.iload_n 2, 1) := by decide +kernel
theorem dX6_clerk_14 : decode cX6_clerk 14 = .ok (.iconst 4, 1) := by decide +kernel
theorem dX6_clerk_15 : decode cX6_clerk 15 = .ok (.if_icmp .le 6, 3) := by decide +kernel
theorem dX6_clerk_18 : decode cX6_clerk 18 = .ok (.bipush (-2), 2) := by decide +kernel
theorem dX6_clerk_20 : decode cX6_clerk 20 = .ok (.ireturn, 1) := by decide +kernel
theorem dX6_clerk_21 : decode cX6_clerk 21 = .ok (.aload_n 0, 1) := by decide +kernel
theorem dX6_clerk_22 : decode cX6_clerk 22 = .ok (.getfield 7, 3) := by decide +kernel
theorem dX6_clerk_25 : decode cX6_clerk 25 = .ok (.sipush 559, 3) := by decide +kernel
theorem dX6_clerk_28 : decode cX6_clerk 28 = .ok (.iaload, 1) := by decide +kernel
theorem dX6_clerk_29 : decode cX6_clerk 29 = .ok (.ifCond .ne 6, 3) := by decide +kernel
theorem dX6_clerk_32 : decode cX6_clerk 32 = .ok (.bipush (-4), 2) := by decide +kernel
theorem dX6_clerk_34 : decode cX6_clerk 34 = .ok (.ireturn, 1) := by decide +kernel
theorem dX6_clerk_35 : decode cX6_clerk 35 = .ok (.aload_n 0, 1) := by decide +kernel
theorem dX6_clerk_36 : decode cX6_clerk 36 = .ok (.iload_n 1, 1) := by decide +kernel
theorem dX6_clerk_37 : decode cX6_clerk 37 = .ok (.invokevirtual 80, 3) := by decide +kernel
theorem dX6_clerk_40 : decode cX6_clerk 40 = .ok (.ifCond .ne 6, 3) := by decide +kernel
theorem dX6_clerk_43 : decode cX6_clerk 43 = .ok (.bipush (-5), 2) := by decide +kernel
theorem dX6_clerk_45 : decode cX6_clerk 45 = .ok (.ireturn, 1) := by decide +kernel
theorem dX6_clerk_46 : decode cX6_clerk 46 = .ok (.iload_n 2, 1) := by decide +kernel
theorem dX6_clerk_47 : decode cX6_clerk 47 = .ok (.iconst 1, 1) := by decide +kernel
theorem dX6_clerk_48 : decode cX6_clerk 48 = .ok (.if_icmp .ne 9, 3) := by decide +kernel
theorem dX6_clerk_51 : decode cX6_clerk 51 = .ok (.aload_n 0, 1) := by decide +kernel
theorem dX6_clerk_52 : decode cX6_clerk 52 = .ok (.iload_n 1, 1) := by decide +kernel
theorem dX6_clerk_53 : decode cX6_clerk 53 = .ok (.invokevirtual 101, 3) := by decide +kernel
theorem dX6_clerk_56 : decode cX6_clerk 56 = .ok (.ireturn, 1) := by decide +kernel
theorem dX6_clerk_57 : decode cX6_clerk 57 = .ok (.iload_n 2, 1) := by decide +kernel
theorem dX6_clerk_58 : decode cX6_clerk 58 = .ok (.iconst 2, 1) := by decide +kernel
theorem dX6_clerk_59 : decode cX6_clerk 59 = .ok (.if_icmp .ne 9, 3) := by decide +kernel
theorem dX6_clerk_62 : decode cX6_clerk 62 = .ok (.aload_n 0, 1) := by decide +kernel
theorem dX6_clerk_63 : decode cX6_clerk 63 = .ok (.iload_n 1, 1) := by decide +kernel
theorem dX6_clerk_64 : decode cX6_clerk 64 = .ok (.invokevirtual 98, 3) := by decide +kernel
theorem dX6_clerk_67 : decode cX6_clerk 67 = .ok (.ireturn, 1) := by decide +kernel
theorem dX6_clerk_68 : decode cX6_clerk 68 = .ok (.aload_n 0, 1) := by decide +kernel
theorem dX6_clerk_69 : decode cX6_clerk 69 = .ok (.getfield 7, 3) := by decide +kernel
theorem dX6_clerk_72 : decode cX6_clerk 72 = .ok (.iload_n 2, 1) := by decide +kernel
theorem dX6_clerk_73 : decode cX6_clerk 73 = .ok (.ifCond .ne 9, 3) := by decide +kernel
theorem dX6_clerk_76 : decode cX6_clerk 76 = .ok (.sipush 568, 3) := by decide +kernel
theorem dX6_clerk_79 : decode cX6_clerk 79 = .ok (.goto 17, 3) := by decide +kernel
theorem dX6_clerk_82 : decode cX6_clerk 82 = .ok (.iload_n 2, 1) := by decide +kernel
theorem dX6_clerk_83 : decode cX6_clerk 83 = .ok (.iconst 3, 1) := by decide +kernel
theorem dX6_clerk_84 : decode cX6_clerk 84 = .ok (.if_icmp .ne 9, 3) := by decide +kernel
theorem dX6_clerk_87 : decode cX6_clerk 87 = .ok (.sipush 574, 3) := by decide +kernel
theorem dX6_clerk_90 : decode cX6_clerk 90 = .ok (.goto 6, 3) := by decide +kernel
theorem dX6_clerk_93 : decode cX6_clerk 93 = .ok (.sipush 580, 3) := by decide +kernel
theorem dX6_clerk_96 : decode cX6_clerk 96 = .ok (.iload_n 1, 1) := by decide +kernel
theorem dX6_clerk_97 : decode cX6_clerk 97 = .ok (.iadd, 1) := by decide +kernel
theorem dX6_clerk_98 : decode cX6_clerk 98 = .ok (.iaload, 1) := by decide +kernel
theorem dX6_clerk_99 : decode cX6_clerk 99 = .ok (.ireturn, 1) := by decide +kernel
theorem dX6_knownOf_0 : decode cX6_knownOf 0 = .ok (.iconst 0, 1) := by decide +kernel
theorem dX6_knownOf_1 : decode cX6_knownOf 1 = .ok (.istore_n 2, 1) := by decide +kernel
theorem dX6_knownOf_2 : decode cX6_knownOf 2 = .ok (.iconst 0, 1) := by decide +kernel
theorem dX6_knownOf_3 : decode cX6_knownOf 3 = .ok (.istore_n 3, 1) := by decide +kernel
theorem dX6_knownOf_4 : decode cX6_knownOf 4 = .ok (.iload_n 3, 1) := by decide +kernel
theorem dX6_knownOf_5 : decode cX6_knownOf 5 = .ok (.bipush 6, 2) := by decide +kernel
theorem dX6_knownOf_7 : decode cX6_knownOf 7 = .ok (.if_icmp .ge 36, 3) := by decide +kernel
theorem dX6_knownOf_10 : decode cX6_knownOf 10 = .ok (.iload_n 2, 1) := by decide +kernel
theorem dX6_knownOf_11 : decode cX6_knownOf 11 = .ok (.aload_n 0, 1) := by decide +kernel
theorem dX6_knownOf_12 : decode cX6_knownOf 12 = .ok (.iload_n 3, 1) := by decide +kernel
theorem dX6_knownOf_13 : decode cX6_knownOf 13 = .ok (.invokevirtual 80, 3) := by decide +kernel
theorem dX6_knownOf_16 : decode cX6_knownOf 16 = .ok (.ifCond .eq 18, 3) := by decide +kernel
theorem dX6_knownOf_19 : decode cX6_knownOf 19 = .ok (.aload_n 0, 1) := by decide +kernel
theorem dX6_knownOf_20 : decode cX6_knownOf 20 = .ok (.iload_n 3, 1) := by decide +kernel
theorem dX6_knownOf_21 : decode cX6_knownOf 21 = .ok (.iload_n 1, 1) := by decide +kernel
theorem dX6_knownOf_22 : decode cX6_knownOf 22 = .ok (.invokevirtual 104, 3) := by decide +kernel
theorem dX6_knownOf_25 : decode cX6_knownOf 25 = .ok (.ifCond .eq 9, 3) := by decide +kernel
theorem dX6_knownOf_28 : decode cX6_knownOf 28 = .ok (.iconst 1, 1) := by decide +kernel
theorem dX6_knownOf_29 : decode cX6_knownOf 29 = .ok (.iload_n 3, 1) := by decide +kernel
theorem dX6_knownOf_30 : decode cX6_knownOf 30 = .ok (.ishl, 1) := by decide +kernel
theorem dX6_knownOf_31 : decode cX6_knownOf 31 = .ok (.goto 4, 3) := by decide +kernel
theorem dX6_knownOf_34 : decode cX6_knownOf 34 = .ok (.iconst 0, 1) := by decide +kernel
theorem dX6_knownOf_35 : decode cX6_knownOf 35 = .ok (.ior, 1) := by decide +kernel
theorem dX6_knownOf_36 : decode cX6_knownOf 36 = .ok (.istore_n 2, 1) := by decide +kernel
theorem dX6_knownOf_37 : decode cX6_knownOf 37 = .ok (.iinc 3 1, 3) := by decide +kernel
theorem dX6_knownOf_40 : decode cX6_knownOf 40 = .ok (.goto (-36), 3) := by decide +kernel
theorem dX6_knownOf_43 : decode cX6_knownOf 43 = .ok (.iload_n 2, 1) := by decide +kernel
theorem dX6_knownOf_44 : decode cX6_knownOf 44 = .ok (.ireturn, 1) := by decide +kernel
theorem dX6_seen_0 : decode cX6_seen 0 = .ok (.iload_n 1, 1) := by decide +kernel
theorem dX6_seen_1 : decode cX6_seen 1 = .ok (.invokestatic 55, 3) := by decide +kernel
theorem dX6_seen_4 : decode cX6_seen 4 = .ok (.ifCond .ne 5, 3) := by decide +kernel
theorem dX6_seen_7 : decode cX6_seen 7 = .ok (.iconst (-1), 1) := by decide +kernel
theorem dX6_seen_8 : decode cX6_seen 8 = .ok (.ireturn, 1) := by decide +kernel
theorem dX6_seen_9 : decode cX6_seen 9 = .ok (.iload_n 2, 1) := by decide +kernel
theorem dX6_seen_10 : decode cX6_seen 10 = .ok (.ifCond .lt 8, 3) := by decide +kernel
theorem dX6_seen_13 : decode cX6_seen 13 = .ok (.iload_n 2, 1) := by decide +kernel
theorem dX6_seen_14 : decode cX6_seen 14 = .ok (.iconst 4, 1) := by decide +kernel
theorem dX6_seen_15 : decode cX6_seen 15 = .ok (.if_icmp .le 6, 3) := by decide +kernel
theorem dX6_seen_18 : decode cX6_seen 18 = .ok (.bipush (-2), 2) := by decide +kernel
theorem dX6_seen_20 : decode cX6_seen 20 = .ok (.ireturn, 1) := by decide +kernel
theorem dX6_seen_21 : decode cX6_seen 21 = .ok (.aload_n 0, 1) := by decide +kernel
theorem dX6_seen_22 : decode cX6_seen 22 = .ok (.getfield 7, 3) := by decide +kernel
theorem dX6_seen_25 : decode cX6_seen 25 = .ok (.sipush 559, 3) := by decide +kernel
theorem dX6_seen_28 : decode cX6_seen 28 = .ok (.iaload, 1) := by decide +kernel
theorem dX6_seen_29 : decode cX6_seen 29 = .ok (.ifCond .ne 6, 3) := by decide +kernel
theorem dX6_seen_32 : decode cX6_seen 32 = .ok (.bipush (-4), 2) := by decide +kernel
theorem dX6_seen_34 : decode cX6_seen 34 = .ok (.ireturn, 1) := by decide +kernel
theorem dX6_seen_35 : decode cX6_seen 35 = .ok (.aload_n 0, 1) := by decide +kernel
theorem dX6_seen_36 : decode cX6_seen 36 = .ok (.iload_n 1, 1) := by decide +kernel
theorem dX6_seen_37 : decode cX6_seen 37 = .ok (.invokevirtual 108, 3) := by decide +kernel
theorem dX6_seen_40 : decode cX6_seen 40 = .ok (.ifCond .ne 6, 3) := by decide +kernel
theorem dX6_seen_43 : decode cX6_seen 43 = .ok (.bipush (-5), 2) := by decide +kernel
theorem dX6_seen_45 : decode cX6_seen 45 = .ok (.ireturn, 1) := by decide +kernel
theorem dX6_seen_46 : decode cX6_seen 46 = .ok (.aload_n 0, 1) := by decide +kernel
theorem dX6_seen_47 : decode cX6_seen 47 = .ok (.invokevirtual 123, 3) := by decide +kernel
theorem dX6_seen_50 : decode cX6_seen 50 = .ok (.iload_n 2, 1) := by decide +kernel
theorem dX6_seen_51 : decode cX6_seen 51 = .ok (.iconst 2, 1) := by decide +kernel
theorem dX6_seen_52 : decode cX6_seen 52 = .ok (.if_icmp .ge 22, 3) := by decide +kernel
theorem dX6_seen_55 : decode cX6_seen 55 = .ok (.iload_n 2, 1) := by decide +kernel
theorem dX6_seen_56 : decode cX6_seen 56 = .ok (.ifCond .ne 12, 3) := by decide +kernel
theorem dX6_seen_59 : decode cX6_seen 59 = .ok (.aload_n 0, 1) := by decide +kernel
theorem dX6_seen_60 : decode cX6_seen 60 = .ok (.getfield 22, 3) := by decide +kernel
theorem dX6_seen_63 : decode cX6_seen 63 = .ok (.iload_n 1, 1) := by decide +kernel
theorem dX6_seen_64 : decode cX6_seen 64 = .ok (.iaload, 1) := by decide +kernel
theorem dX6_seen_65 : decode cX6_seen 65 = .ok (.goto 8, 3) := by decide +kernel
theorem dX6_seen_68 : decode cX6_seen 68 = .ok (.aload_n 0, 1) := by decide +kernel
theorem dX6_seen_69 : decode cX6_seen 69 = .ok (.iload_n 1, 1) := by decide +kernel
theorem dX6_seen_70 : decode cX6_seen 70 = .ok (.invokevirtual 132, 3) := by decide +kernel
theorem dX6_seen_73 : decode cX6_seen 73 = .ok (.ireturn, 1) := by decide +kernel
theorem dX6_seen_74 : decode cX6_seen 74 = .ok (.iload_n 2, 1) := by decide +kernel
theorem dX6_seen_75 : decode cX6_seen 75 = .ok (.iconst 2, 1) := by decide +kernel
theorem dX6_seen_76 : decode cX6_seen 76 = .ok (.if_icmp .ne 9, 3) := by decide +kernel
theorem dX6_seen_79 : decode cX6_seen 79 = .ok (.aload_n 0, 1) := by decide +kernel
theorem dX6_seen_80 : decode cX6_seen 80 = .ok (.iload_n 1, 1) := by decide +kernel
theorem dX6_seen_81 : decode cX6_seen 81 = .ok (.invokevirtual 161, 3) := by decide +kernel
theorem dX6_seen_84 : decode cX6_seen 84 = .ok (.ireturn, 1) := by decide +kernel
theorem dX6_seen_85 : decode cX6_seen 85 = .ok (.iload_n 2, 1) := by decide +kernel
theorem dX6_seen_86 : decode cX6_seen 86 = .ok (.iconst 3, 1) := by decide +kernel
theorem dX6_seen_87 : decode cX6_seen 87 = .ok (.if_icmp .ne 11, 3) := by decide +kernel
theorem dX6_seen_90 : decode cX6_seen 90 = .ok (.aload_n 0, 1) := by decide +kernel
theorem dX6_seen_91 : decode cX6_seen 91 = .ok (.iload_n 1, 1) := by decide +kernel
theorem dX6_seen_92 : decode cX6_seen 92 = .ok (.invokevirtual 117, 3) := by decide +kernel
theorem dX6_seen_95 : decode cX6_seen 95 = .ok (.goto 15, 3) := by decide +kernel
theorem dX6_seen_98 : decode cX6_seen 98 = .ok (.aload_n 0, 1) := by decide +kernel
theorem dX6_seen_99 : decode cX6_seen 99 = .ok (.getfield 7, 3) := by decide +kernel
theorem dX6_seen_102 : decode cX6_seen 102 = .ok (.sipush 586, 3) := by decide +kernel
theorem dX6_seen_105 : decode cX6_seen 105 = .ok (.iload_n 1, 1) := by decide +kernel
theorem dX6_seen_106 : decode cX6_seen 106 = .ok (.iadd, 1) := by decide +kernel
theorem dX6_seen_107 : decode cX6_seen 107 = .ok (.iaload, 1) := by decide +kernel
theorem dX6_seen_108 : decode cX6_seen 108 = .ok (.iconst 1, 1) := by decide +kernel
theorem dX6_seen_109 : decode cX6_seen 109 = .ok (.isub, 1) := by decide +kernel
theorem dX6_seen_110 : decode cX6_seen 110 = .ok (.ireturn, 1) := by decide +kernel
theorem dX6_told_0 : decode cX6_told 0 = .ok (.iload_n 1, 1) := by decide +kernel
theorem dX6_told_1 : decode cX6_told 1 = .ok (.ifCond .ge 6, 3) := by decide +kernel
theorem dX6_told_4 : decode cX6_told 4 = .ok (.bipush (-2), 2) := by decide +kernel
theorem dX6_told_6 : decode cX6_told 6 = .ok (.ireturn, 1) := by decide +kernel
theorem dX6_told_7 : decode cX6_told 7 = .ok (.aload_n 0, 1) := by decide +kernel
theorem dX6_told_8 : decode cX6_told 8 = .ok (.getfield 7, 3) := by decide +kernel
theorem dX6_told_11 : decode cX6_told 11 = .ok (.sipush 559, 3) := by decide +kernel
theorem dX6_told_14 : decode cX6_told 14 = .ok (.iaload, 1) := by decide +kernel
theorem dX6_told_15 : decode cX6_told 15 = .ok (.ifCond .ne 6, 3) := by decide +kernel
theorem dX6_told_18 : decode cX6_told 18 = .ok (.bipush (-4), 2) := by decide +kernel
theorem dX6_told_20 : decode cX6_told 20 = .ok (.ireturn, 1) := by decide +kernel
theorem dX6_told_21 : decode cX6_told 21 = .ok (.aload_n 0, 1) := by decide +kernel
theorem dX6_told_22 : decode cX6_told 22 = .ok (.invokevirtual 123, 3) := by decide +kernel
theorem dX6_told_25 : decode cX6_told 25 = .ok (.iload_n 1, 1) := by decide +kernel
theorem dX6_told_26 : decode cX6_told 26 = .ok (.aload_n 0, 1) := by decide +kernel
theorem dX6_told_27 : decode cX6_told 27 = .ok (.invokevirtual 158, 3) := by decide +kernel
theorem dX6_told_30 : decode cX6_told 30 = .ok (.if_icmp .ge 11, 3) := by decide +kernel
theorem dX6_told_33 : decode cX6_told 33 = .ok (.aload_n 0, 1) := by decide +kernel
theorem dX6_told_34 : decode cX6_told 34 = .ok (.iload_n 1, 1) := by decide +kernel
theorem dX6_told_35 : decode cX6_told 35 = .ok (.invokevirtual 126, 3) := by decide +kernel
theorem dX6_told_38 : decode cX6_told 38 = .ok (.goto 5, 3) := by decide +kernel
theorem dX6_told_41 : decode cX6_told 41 = .ok (.bipush (-5), 2) := by decide +kernel
theorem dX6_told_43 : decode cX6_told 43 = .ok (.ireturn, 1) := by decide +kernel
theorem dX6_sumOf_0 : decode cX6_sumOf 0 = .ok (.iconst 0, 1) := by decide +kernel
theorem dX6_sumOf_1 : decode cX6_sumOf 1 = .ok (.istore_n 2, 1) := by decide +kernel
theorem dX6_sumOf_2 : decode cX6_sumOf 2 = .ok (.iconst 0, 1) := by decide +kernel
theorem dX6_sumOf_3 : decode cX6_sumOf 3 = .ok (.istore_n 3, 1) := by decide +kernel
theorem dX6_sumOf_4 : decode cX6_sumOf 4 = .ok (.iload_n 3, 1) := by decide +kernel
theorem dX6_sumOf_5 : decode cX6_sumOf 5 = .ok (.bipush 6, 2) := by decide +kernel
theorem dX6_sumOf_7 : decode cX6_sumOf 7 = .ok (.if_icmp .ge 20, 3) := by decide +kernel
theorem dX6_sumOf_10 : decode cX6_sumOf 10 = .ok (.iload_n 2, 1) := by decide +kernel
theorem dX6_sumOf_11 : decode cX6_sumOf 11 = .ok (.aload_n 0, 1) := by decide +kernel
theorem dX6_sumOf_12 : decode cX6_sumOf 12 = .ok (.getfield 7, 3) := by decide +kernel
theorem dX6_sumOf_15 : decode cX6_sumOf 15 = .ok (.iload_n 1, 1) := by decide +kernel
theorem dX6_sumOf_16 : decode cX6_sumOf 16 = .ok (.iload_n 3, 1) := by decide +kernel
theorem dX6_sumOf_17 : decode cX6_sumOf 17 = .ok (.iadd, 1) := by decide +kernel
theorem dX6_sumOf_18 : decode cX6_sumOf 18 = .ok (.iaload, 1) := by decide +kernel
theorem dX6_sumOf_19 : decode cX6_sumOf 19 = .ok (.iadd, 1) := by decide +kernel
theorem dX6_sumOf_20 : decode cX6_sumOf 20 = .ok (.istore_n 2, 1) := by decide +kernel
theorem dX6_sumOf_21 : decode cX6_sumOf 21 = .ok (.iinc 3 1, 3) := by decide +kernel
theorem dX6_sumOf_24 : decode cX6_sumOf 24 = .ok (.goto (-20), 3) := by decide +kernel
theorem dX6_sumOf_27 : decode cX6_sumOf 27 = .ok (.iload_n 2, 1) := by decide +kernel
theorem dX6_sumOf_28 : decode cX6_sumOf 28 = .ok (.ireturn, 1) := by decide +kernel
theorem dX6_cost_0 : decode cX6_cost 0 = .ok (.aload_n 0, 1) := by decide +kernel
theorem dX6_cost_1 : decode cX6_cost 1 = .ok (.getfield 7, 3) := by decide +kernel
theorem dX6_cost_4 : decode cX6_cost 4 = .ok (.sipush 564, 3) := by decide +kernel
theorem dX6_cost_7 : decode cX6_cost 7 = .ok (.iaload, 1) := by decide +kernel
theorem dX6_cost_8 : decode cX6_cost 8 = .ok (.iconst 3, 1) := by decide +kernel
theorem dX6_cost_9 : decode cX6_cost 9 = .ok (.aload_n 0, 1) := by decide +kernel
theorem dX6_cost_10 : decode cX6_cost 10 = .ok (.sipush 580, 3) := by decide +kernel
theorem dX6_cost_13 : decode cX6_cost 13 = .ok (.invokevirtual 164, 3) := by decide +kernel
theorem dX6_cost_16 : decode cX6_cost 16 = .ok (.imul, 1) := by decide +kernel
theorem dX6_cost_17 : decode cX6_cost 17 = .ok (.iadd, 1) := by decide +kernel
theorem dX6_cost_18 : decode cX6_cost 18 = .ok (.ireturn, 1) := by decide +kernel
theorem dX6_toldNotWanted_0 : decode cX6_toldNotWanted 0 = .ok (.aload_n 0, 1) := by decide +kernel
theorem dX6_toldNotWanted_1 : decode cX6_toldNotWanted 1 = .ok (.invokevirtual 123, 3) := by decide +kernel
theorem dX6_toldNotWanted_4 : decode cX6_toldNotWanted 4 = .ok (.iconst 0, 1) := by decide +kernel
theorem dX6_toldNotWanted_5 : decode cX6_toldNotWanted 5 = .ok (.istore_n 1, 1) := by decide +kernel
theorem dX6_toldNotWanted_6 : decode cX6_toldNotWanted 6 = .ok (.iconst 0, 1) := by decide +kernel
theorem dX6_toldNotWanted_7 : decode cX6_toldNotWanted 7 = .ok (.istore_n 2, 1) := by decide +kernel
theorem dX6_toldNotWanted_8 : decode cX6_toldNotWanted 8 = .ok (.iload_n 2, 1) := by decide +kernel
theorem dX6_toldNotWanted_9 : decode cX6_toldNotWanted 9 = .ok (.bipush 60, 2) := by decide +kernel
theorem dX6_toldNotWanted_11 : decode cX6_toldNotWanted 11 = .ok (.if_icmp .ge 59, 3) := by decide +kernel
theorem dX6_toldNotWanted_14 : decode cX6_toldNotWanted 14 = .ok (.aload_n 0, 1) := by decide +kernel
theorem dX6_toldNotWanted_15 : decode cX6_toldNotWanted 15 = .ok (.iload_n 2, 1) := by decide +kernel
theorem dX6_toldNotWanted_16 : decode cX6_toldNotWanted 16 = .ok (.invokevirtual 108, 3) := by decide +kernel
theorem dX6_toldNotWanted_19 : decode cX6_toldNotWanted 19 = .ok (.ifCond .eq 23, 3) := by decide +kernel
theorem dX6_toldNotWanted_22 : decode cX6_toldNotWanted 22 = .ok (.aload_n 0, 1) := by decide +kernel
theorem dX6_toldNotWanted_23 : decode cX6_toldNotWanted 23 = .ok (.iload_n 2, 1) := by decide +kernel
theorem dX6_toldNotWanted_24 : decode cX6_toldNotWanted 24 = .ok (.invokevirtual 117, 3) := by decide +kernel
theorem dX6_toldNotWanted_27 : decode cX6_toldNotWanted 27 = .ok (.aload_n 0, 1) := by decide +kernel
theorem dX6_toldNotWanted_28 : decode cX6_toldNotWanted 28 = .ok (.getfield 7, 3) := by decide +kernel
theorem dX6_toldNotWanted_31 : decode cX6_toldNotWanted 31 = .ok (.sipush 558, 3) := by decide +kernel
theorem dX6_toldNotWanted_34 : decode cX6_toldNotWanted 34 = .ok (.iaload, 1) := by decide +kernel
theorem dX6_toldNotWanted_35 : decode cX6_toldNotWanted 35 = .ok (.if_icmp .ge 7, 3) := by decide +kernel
theorem dX6_toldNotWanted_38 : decode cX6_toldNotWanted 38 = .ok (.iconst 1, 1) := by decide +kernel
theorem dX6_toldNotWanted_39 : decode cX6_toldNotWanted 39 = .ok (.goto 4, 3) := by decide +kernel
theorem dX6_toldNotWanted_42 : decode cX6_toldNotWanted 42 = .ok (.iconst 0, 1) := by decide +kernel
theorem dX6_toldNotWanted_43 : decode cX6_toldNotWanted 43 = .ok (.istore_n 3, 1) := by decide +kernel
theorem dX6_toldNotWanted_44 : decode cX6_toldNotWanted 44 = .ok (.iload_n 1, 1) := by decide +kernel
theorem dX6_toldNotWanted_45 : decode cX6_toldNotWanted 45 = .ok (.iload_n 3, 1) := by decide +kernel
theorem dX6_toldNotWanted_46 : decode cX6_toldNotWanted 46 = .ok (.ifCond .eq 15, 3) := by decide +kernel
theorem dX6_toldNotWanted_49 : decode cX6_toldNotWanted 49 = .ok (.aload_n 0, 1) := by decide +kernel
theorem dX6_toldNotWanted_50 : decode cX6_toldNotWanted 50 = .ok (.iload_n 2, 1) := by decide +kernel
theorem dX6_toldNotWanted_51 : decode cX6_toldNotWanted 51 = .ok (.invokevirtual 92, 3) := by decide +kernel
theorem dX6_toldNotWanted_54 : decode cX6_toldNotWanted 54 = .ok (.ifCond .ge 7, 3) := by decide +kernel
theorem dX6_toldNotWanted_57 : decode cX6_toldNotWanted 57 = .ok (.iconst 1, 1) := by decide +kernel
theorem dX6_toldNotWanted_58 : decode cX6_toldNotWanted 58 = .ok (.goto 4, 3) := by decide +kernel
theorem dX6_toldNotWanted_61 : decode cX6_toldNotWanted 61 = .ok (.iconst 0, 1) := by decide +kernel
theorem dX6_toldNotWanted_62 : decode cX6_toldNotWanted 62 = .ok (.iadd, 1) := by decide +kernel
theorem dX6_toldNotWanted_63 : decode cX6_toldNotWanted 63 = .ok (.istore_n 1, 1) := by decide +kernel
theorem dX6_toldNotWanted_64 : decode cX6_toldNotWanted 64 = .ok (.iinc 2 1, 3) := by decide +kernel
theorem dX6_toldNotWanted_67 : decode cX6_toldNotWanted 67 = .ok (.goto (-59), 3) := by decide +kernel
theorem dX6_toldNotWanted_70 : decode cX6_toldNotWanted 70 = .ok (.iload_n 1, 1) := by decide +kernel
theorem dX6_toldNotWanted_71 : decode cX6_toldNotWanted 71 = .ok (.ireturn, 1) := by decide +kernel
theorem dX6_tellLess_0 : decode cX6_tellLess 0 = .ok (.iconst 0, 1) := by decide +kernel
theorem dX6_tellLess_1 : decode cX6_tellLess 1 = .ok (.istore_n 1, 1) := by decide +kernel
theorem dX6_tellLess_2 : decode cX6_tellLess 2 = .ok (.iconst 0, 1) := by decide +kernel
theorem dX6_tellLess_3 : decode cX6_tellLess 3 = .ok (.istore_n 2, 1) := by decide +kernel
theorem dX6_tellLess_4 : decode cX6_tellLess 4 = .ok (.iload_n 2, 1) := by decide +kernel
theorem dX6_tellLess_5 : decode cX6_tellLess 5 = .ok (.bipush 6, 2) := by decide +kernel
theorem dX6_tellLess_7 : decode cX6_tellLess 7 = .ok (.if_icmp .ge 38, 3) := by decide +kernel
theorem dX6_tellLess_10 : decode cX6_tellLess 10 = .ok (.iload_n 1, 1) := by decide +kernel
theorem dX6_tellLess_11 : decode cX6_tellLess 11 = .ok (.aload_n 0, 1) := by decide +kernel
theorem dX6_tellLess_12 : decode cX6_tellLess 12 = .ok (.iload_n 2, 1) := by decide +kernel
theorem dX6_tellLess_13 : decode cX6_tellLess 13 = .ok (.invokevirtual 80, 3) := by decide +kernel
theorem dX6_tellLess_16 : decode cX6_tellLess 16 = .ok (.ifCond .eq 20, 3) := by decide +kernel
theorem dX6_tellLess_19 : decode cX6_tellLess 19 = .ok (.aload_n 0, 1) := by decide +kernel
theorem dX6_tellLess_20 : decode cX6_tellLess 20 = .ok (.iload_n 2, 1) := by decide +kernel
theorem dX6_tellLess_21 : decode cX6_tellLess 21 = .ok (.invokevirtual 101, 3) := by decide +kernel
theorem dX6_tellLess_24 : decode cX6_tellLess 24 = .ok (.aload_n 0, 1) := by decide +kernel
theorem dX6_tellLess_25 : decode cX6_tellLess 25 = .ok (.iload_n 2, 1) := by decide +kernel
theorem dX6_tellLess_26 : decode cX6_tellLess 26 = .ok (.invokevirtual 98, 3) := by decide +kernel
theorem dX6_tellLess_29 : decode cX6_tellLess 29 = .ok (.if_icmp .ge 7, 3) := by decide +kernel
theorem dX6_tellLess_32 : decode cX6_tellLess 32 = .ok (.iconst 1, 1) := by decide +kernel
theorem dX6_tellLess_33 : decode cX6_tellLess 33 = .ok (.goto 4, 3) := by decide +kernel
theorem dX6_tellLess_36 : decode cX6_tellLess 36 = .ok (.iconst 0, 1) := by decide +kernel
theorem dX6_tellLess_37 : decode cX6_tellLess 37 = .ok (.iadd, 1) := by decide +kernel
theorem dX6_tellLess_38 : decode cX6_tellLess 38 = .ok (.istore_n 1, 1) := by decide +kernel
theorem dX6_tellLess_39 : decode cX6_tellLess 39 = .ok (.iinc 2 1, 3) := by decide +kernel
theorem dX6_tellLess_42 : decode cX6_tellLess 42 = .ok (.goto (-38), 3) := by decide +kernel
theorem dX6_tellLess_45 : decode cX6_tellLess 45 = .ok (.iload_n 1, 1) := by decide +kernel
theorem dX6_tellLess_46 : decode cX6_tellLess 46 = .ok (.ireturn, 1) := by decide +kernel
theorem dX6_reading_0 : decode cX6_reading 0 = .ok (.iload_n 1, 1) := by decide +kernel
theorem dX6_reading_1 : decode cX6_reading 1 = .ok (.ifCond .lt 9, 3) := by decide +kernel
theorem dX6_reading_4 : decode cX6_reading 4 = .ok (.iload_n 1, 1) := by decide +kernel
theorem dX6_reading_5 : decode cX6_reading 5 = .ok (.bipush 12, 2) := by decide +kernel
theorem dX6_reading_7 : decode cX6_reading 7 = .ok (.if_icmp .le 6, 3) := by decide +kernel
theorem dX6_reading_10 : decode cX6_reading 10 = .ok (.bipush (-2), 2) := by decide +kernel
theorem dX6_reading_12 : decode cX6_reading 12 = .ok (.ireturn, 1) := by decide +kernel
theorem dX6_reading_13 : decode cX6_reading 13 = .ok (.aload_n 0, 1) := by decide +kernel
theorem dX6_reading_14 : decode cX6_reading 14 = .ok (.getfield 7, 3) := by decide +kernel
theorem dX6_reading_17 : decode cX6_reading 17 = .ok (.sipush 559, 3) := by decide +kernel
theorem dX6_reading_20 : decode cX6_reading 20 = .ok (.iaload, 1) := by decide +kernel
theorem dX6_reading_21 : decode cX6_reading 21 = .ok (.ifCond .ne 6, 3) := by decide +kernel
theorem dX6_reading_24 : decode cX6_reading 24 = .ok (.bipush (-4), 2) := by decide +kernel
theorem dX6_reading_26 : decode cX6_reading 26 = .ok (.ireturn, 1) := by decide +kernel
theorem dX6_reading_27 : decode cX6_reading 27 = .ok (.iload_n 1, 1) := by decide +kernel
theorem dX6_reading_28 : decode cX6_reading 28 = .ok (.tableswitch 185 0 11 #[64, 73, 82, 90, 95, 100, 105, 114, 136, 141, 172, 180], 64) := by decide +kernel
theorem dX6_reading_92 : decode cX6_reading 92 = .ok (.aload_n 0, 1) := by decide +kernel
theorem dX6_reading_93 : decode cX6_reading 93 = .ok (.getfield 7, 3) := by decide +kernel
theorem dX6_reading_96 : decode cX6_reading 96 = .ok (.sipush 564, 3) := by decide +kernel
theorem dX6_reading_99 : decode cX6_reading 99 = .ok (.iaload, 1) := by decide +kernel
theorem dX6_reading_100 : decode cX6_reading 100 = .ok (.ireturn, 1) := by decide +kernel
theorem dX6_reading_101 : decode cX6_reading 101 = .ok (.aload_n 0, 1) := by decide +kernel
theorem dX6_reading_102 : decode cX6_reading 102 = .ok (.getfield 7, 3) := by decide +kernel
theorem dX6_reading_105 : decode cX6_reading 105 = .ok (.sipush 565, 3) := by decide +kernel
theorem dX6_reading_108 : decode cX6_reading 108 = .ok (.iaload, 1) := by decide +kernel
theorem dX6_reading_109 : decode cX6_reading 109 = .ok (.ireturn, 1) := by decide +kernel
theorem dX6_reading_110 : decode cX6_reading 110 = .ok (.aload_n 0, 1) := by decide +kernel
theorem dX6_reading_111 : decode cX6_reading 111 = .ok (.sipush 580, 3) := by decide +kernel
theorem dX6_reading_114 : decode cX6_reading 114 = .ok (.invokevirtual 164, 3) := by decide +kernel
theorem dX6_reading_117 : decode cX6_reading 117 = .ok (.ireturn, 1) := by decide +kernel
theorem dX6_reading_118 : decode cX6_reading 118 = .ok (.aload_n 0, 1) := by decide +kernel
theorem dX6_reading_119 : decode cX6_reading 119 = .ok (.invokevirtual 167, 3) := by decide +kernel
theorem dX6_reading_122 : decode cX6_reading 122 = .ok (.ireturn, 1) := by decide +kernel
theorem dX6_reading_123 : decode cX6_reading 123 = .ok (.aload_n 0, 1) := by decide +kernel
theorem dX6_reading_124 : decode cX6_reading 124 = .ok (.invokevirtual 114, 3) := by decide +kernel
theorem dX6_reading_127 : decode cX6_reading 127 = .ok (.ireturn, 1) := by decide +kernel
theorem dX6_reading_128 : decode cX6_reading 128 = .ok (.aload_n 0, 1) := by decide +kernel
theorem dX6_reading_129 : decode cX6_reading 129 = .ok (.invokevirtual 158, 3) := by decide +kernel
theorem dX6_reading_132 : decode cX6_reading 132 = .ok (.ireturn, 1) := by decide +kernel
theorem dX6_reading_133 : decode cX6_reading 133 = .ok (.aload_n 0, 1) := by decide +kernel
theorem dX6_reading_134 : decode cX6_reading 134 = .ok (.getfield 7, 3) := by decide +kernel
theorem dX6_reading_137 : decode cX6_reading 137 = .ok (.sipush 562, 3) := by decide +kernel
theorem dX6_reading_140 : decode cX6_reading 140 = .ok (.iaload, 1) := by decide +kernel
theorem dX6_reading_141 : decode cX6_reading 141 = .ok (.ireturn, 1) := by decide +kernel
theorem dX6_reading_142 : decode cX6_reading 142 = .ok (.aload_n 0, 1) := by decide +kernel
theorem dX6_reading_143 : decode cX6_reading 143 = .ok (.getfield 7, 3) := by decide +kernel
theorem dX6_reading_146 : decode cX6_reading 146 = .ok (.sipush 562, 3) := by decide +kernel
theorem dX6_reading_149 : decode cX6_reading 149 = .ok (.iaload, 1) := by decide +kernel
theorem dX6_reading_150 : decode cX6_reading 150 = .ok (.iconst 1, 1) := by decide +kernel
theorem dX6_reading_151 : decode cX6_reading 151 = .ok (.if_icmp .ne 8, 3) := by decide +kernel
theorem dX6_reading_154 : decode cX6_reading 154 = .ok (.bipush (-5), 2) := by decide +kernel
theorem dX6_reading_156 : decode cX6_reading 156 = .ok (.goto 7, 3) := by decide +kernel
theorem dX6_reading_159 : decode cX6_reading 159 = .ok (.aload_n 0, 1) := by decide +kernel
theorem dX6_reading_160 : decode cX6_reading 160 = .ok (.invokevirtual 142, 3) := by decide +kernel
theorem dX6_reading_163 : decode cX6_reading 163 = .ok (.ireturn, 1) := by decide +kernel
theorem dX6_reading_164 : decode cX6_reading 164 = .ok (.aload_n 0, 1) := by decide +kernel
theorem dX6_reading_165 : decode cX6_reading 165 = .ok (.invokevirtual 129, 3) := by decide +kernel
theorem dX6_reading_168 : decode cX6_reading 168 = .ok (.ireturn, 1) := by decide +kernel
theorem dX6_reading_169 : decode cX6_reading 169 = .ok (.aload_n 0, 1) := by decide +kernel
theorem dX6_reading_170 : decode cX6_reading 170 = .ok (.invokevirtual 123, 3) := by decide +kernel
theorem dX6_reading_173 : decode cX6_reading 173 = .ok (.aload_n 0, 1) := by decide +kernel
theorem dX6_reading_174 : decode cX6_reading 174 = .ok (.invokevirtual 158, 3) := by decide +kernel
theorem dX6_reading_177 : decode cX6_reading 177 = .ok (.ifCond .ne 7, 3) := by decide +kernel
theorem dX6_reading_180 : decode cX6_reading 180 = .ok (.iconst 0, 1) := by decide +kernel
theorem dX6_reading_181 : decode cX6_reading 181 = .ok (.goto 18, 3) := by decide +kernel
theorem dX6_reading_184 : decode cX6_reading 184 = .ok (.aload_n 0, 1) := by decide +kernel
theorem dX6_reading_185 : decode cX6_reading 185 = .ok (.getfield 22, 3) := by decide +kernel
theorem dX6_reading_188 : decode cX6_reading 188 = .ok (.aload_n 0, 1) := by decide +kernel
theorem dX6_reading_189 : decode cX6_reading 189 = .ok (.aload_n 0, 1) := by decide +kernel
theorem dX6_reading_190 : decode cX6_reading 190 = .ok (.invokevirtual 158, 3) := by decide +kernel
theorem dX6_reading_193 : decode cX6_reading 193 = .ok (.iconst 1, 1) := by decide +kernel
theorem dX6_reading_194 : decode cX6_reading 194 = .ok (.isub, 1) := by decide +kernel
theorem dX6_reading_195 : decode cX6_reading 195 = .ok (.invokevirtual 126, 3) := by decide +kernel
theorem dX6_reading_198 : decode cX6_reading 198 = .ok (.iaload, 1) := by decide +kernel
theorem dX6_reading_199 : decode cX6_reading 199 = .ok (.ireturn, 1) := by decide +kernel
theorem dX6_reading_200 : decode cX6_reading 200 = .ok (.aload_n 0, 1) := by decide +kernel
theorem dX6_reading_201 : decode cX6_reading 201 = .ok (.sipush 574, 3) := by decide +kernel
theorem dX6_reading_204 : decode cX6_reading 204 = .ok (.invokevirtual 164, 3) := by decide +kernel
theorem dX6_reading_207 : decode cX6_reading 207 = .ok (.ireturn, 1) := by decide +kernel
theorem dX6_reading_208 : decode cX6_reading 208 = .ok (.aload_n 0, 1) := by decide +kernel
theorem dX6_reading_209 : decode cX6_reading 209 = .ok (.invokevirtual 170, 3) := by decide +kernel
theorem dX6_reading_212 : decode cX6_reading 212 = .ok (.ireturn, 1) := by decide +kernel
theorem dX6_reading_213 : decode cX6_reading 213 = .ok (.aload_n 0, 1) := by decide +kernel
theorem dX6_reading_214 : decode cX6_reading 214 = .ok (.invokevirtual 173, 3) := by decide +kernel
theorem dX6_reading_217 : decode cX6_reading 217 = .ok (.ireturn, 1) := by decide +kernel
theorem dX6_tried_0 : decode cX6_tried 0 = .ok (.iconst 0, 1) := by decide +kernel
theorem dX6_tried_1 : decode cX6_tried 1 = .ok (.istore 4, 2) := by decide +kernel
theorem dX6_tried_3 : decode cX6_tried 3 = .ok (.iload 4, 2) := by decide +kernel
theorem dX6_tried_5 : decode cX6_tried 5 = .ok (.sipush 706, 3) := by decide +kernel
theorem dX6_tried_8 : decode cX6_tried 8 = .ok (.if_icmp .ge 23, 3) := by decide +kernel
theorem dX6_tried_11 : decode cX6_tried 11 = .ok (.aload_n 0, 1) := by decide +kernel
theorem dX6_tried_12 : decode cX6_tried 12 = .ok (.getfield 19, 3) := by decide +kernel
theorem dX6_tried_15 : decode cX6_tried 15 = .ok (.iload 4, 2) := by decide +kernel
theorem dX6_tried_17 : decode cX6_tried 17 = .ok (.aload_n 0, 1) := by decide +kernel
theorem dX6_tried_18 : decode cX6_tried 18 = .ok (.getfield 7, 3) := by decide +kernel
theorem dX6_tried_21 : decode cX6_tried 21 = .ok (.iload 4, 2) := by decide +kernel
theorem dX6_tried_23 : decode cX6_tried 23 = .ok (.iaload, 1) := by decide +kernel
theorem dX6_tried_24 : decode cX6_tried 24 = .ok (.iastore, 1) := by decide +kernel
theorem dX6_tried_25 : decode cX6_tried 25 = .ok (.iinc 4 1, 3) := by decide +kernel
theorem dX6_tried_28 : decode cX6_tried 28 = .ok (.goto (-25), 3) := by decide +kernel
theorem dX6_tried_31 : decode cX6_tried 31 = .ok (.aload_n 0, 1) := by decide +kernel
theorem dX6_tried_32 : decode cX6_tried 32 = .ok (.iload_n 1, 1) := by decide +kernel
theorem dX6_tried_33 : decode cX6_tried 33 = .ok (.iload_n 2, 1) := by decide +kernel
theorem dX6_tried_34 : decode cX6_tried 34 = .ok (.invokevirtual 151, 3) := by decide +kernel
theorem dX6_tried_37 : decode cX6_tried 37 = .ok (.iconst 0, 1) := by decide +kernel
theorem dX6_tried_38 : decode cX6_tried 38 = .ok (.istore 4, 2) := by decide +kernel
theorem dX6_tried_40 : decode cX6_tried 40 = .ok (.iload 4, 2) := by decide +kernel
theorem dX6_tried_42 : decode cX6_tried 42 = .ok (.sipush 240, 3) := by decide +kernel
theorem dX6_tried_45 : decode cX6_tried 45 = .ok (.if_icmp .ge 24, 3) := by decide +kernel
theorem dX6_tried_48 : decode cX6_tried 48 = .ok (.aload_n 0, 1) := by decide +kernel
theorem dX6_tried_49 : decode cX6_tried 49 = .ok (.getfield 7, 3) := by decide +kernel
theorem dX6_tried_52 : decode cX6_tried 52 = .ok (.sipush 562, 3) := by decide +kernel
theorem dX6_tried_55 : decode cX6_tried 55 = .ok (.iaload, 1) := by decide +kernel
theorem dX6_tried_56 : decode cX6_tried 56 = .ok (.ifCond .ne 13, 3) := by decide +kernel
theorem dX6_tried_59 : decode cX6_tried 59 = .ok (.aload_n 0, 1) := by decide +kernel
theorem dX6_tried_60 : decode cX6_tried 60 = .ok (.invokevirtual 155, 3) := by decide +kernel
theorem dX6_tried_63 : decode cX6_tried 63 = .ok (.iinc 4 1, 3) := by decide +kernel
theorem dX6_tried_66 : decode cX6_tried 66 = .ok (.goto (-26), 3) := by decide +kernel
theorem dX6_tried_69 : decode cX6_tried 69 = .ok (.iload_n 3, 1) := by decide +kernel
theorem dX6_tried_70 : decode cX6_tried 70 = .ok (.ifCond .ne 14, 3) := by decide +kernel
theorem dX6_tried_73 : decode cX6_tried 73 = .ok (.aload_n 0, 1) := by decide +kernel
theorem dX6_tried_74 : decode cX6_tried 74 = .ok (.getfield 7, 3) := by decide +kernel
theorem dX6_tried_77 : decode cX6_tried 77 = .ok (.sipush 564, 3) := by decide +kernel
theorem dX6_tried_80 : decode cX6_tried 80 = .ok (.iaload, 1) := by decide +kernel
theorem dX6_tried_81 : decode cX6_tried 81 = .ok (.goto 34, 3) := by decide +kernel
theorem dX6_tried_84 : decode cX6_tried 84 = .ok (.iload_n 3, 1) := by decide +kernel
theorem dX6_tried_85 : decode cX6_tried 85 = .ok (.iconst 1, 1) := by decide +kernel
theorem dX6_tried_86 : decode cX6_tried 86 = .ok (.if_icmp .ne 10, 3) := by decide +kernel
theorem dX6_tried_89 : decode cX6_tried 89 = .ok (.aload_n 0, 1) := by decide +kernel
theorem dX6_tried_90 : decode cX6_tried 90 = .ok (.invokevirtual 167, 3) := by decide +kernel
theorem dX6_tried_93 : decode cX6_tried 93 = .ok (.goto 22, 3) := by decide +kernel
theorem dX6_tried_96 : decode cX6_tried 96 = .ok (.iload_n 3, 1) := by decide +kernel
theorem dX6_tried_97 : decode cX6_tried 97 = .ok (.iconst 2, 1) := by decide +kernel
theorem dX6_tried_98 : decode cX6_tried 98 = .ok (.if_icmp .ne 10, 3) := by decide +kernel
theorem dX6_tried_101 : decode cX6_tried 101 = .ok (.aload_n 0, 1) := by decide +kernel
theorem dX6_tried_102 : decode cX6_tried 102 = .ok (.invokevirtual 170, 3) := by decide +kernel
theorem dX6_tried_105 : decode cX6_tried 105 = .ok (.goto 10, 3) := by decide +kernel
theorem dX6_tried_108 : decode cX6_tried 108 = .ok (.aload_n 0, 1) := by decide +kernel
theorem dX6_tried_109 : decode cX6_tried 109 = .ok (.sipush 574, 3) := by decide +kernel
theorem dX6_tried_112 : decode cX6_tried 112 = .ok (.invokevirtual 164, 3) := by decide +kernel
theorem dX6_tried_115 : decode cX6_tried 115 = .ok (.istore 4, 2) := by decide +kernel
theorem dX6_tried_117 : decode cX6_tried 117 = .ok (.iconst 0, 1) := by decide +kernel
theorem dX6_tried_118 : decode cX6_tried 118 = .ok (.istore 5, 2) := by decide +kernel
theorem dX6_tried_120 : decode cX6_tried 120 = .ok (.iload 5, 2) := by decide +kernel
theorem dX6_tried_122 : decode cX6_tried 122 = .ok (.sipush 706, 3) := by decide +kernel
theorem dX6_tried_125 : decode cX6_tried 125 = .ok (.if_icmp .ge 23, 3) := by decide +kernel
theorem dX6_tried_128 : decode cX6_tried 128 = .ok (.aload_n 0, 1) := by decide +kernel
theorem dX6_tried_129 : decode cX6_tried 129 = .ok (.getfield 7, 3) := by decide +kernel
theorem dX6_tried_132 : decode cX6_tried 132 = .ok (.iload 5, 2) := by decide +kernel
theorem dX6_tried_134 : decode cX6_tried 134 = .ok (.aload_n 0, 1) := by decide +kernel
theorem dX6_tried_135 : decode cX6_tried 135 = .ok (.getfield 19, 3) := by decide +kernel
theorem dX6_tried_138 : decode cX6_tried 138 = .ok (.iload 5, 2) := by decide +kernel
theorem dX6_tried_140 : decode cX6_tried 140 = .ok (.iaload, 1) := by decide +kernel
theorem dX6_tried_141 : decode cX6_tried 141 = .ok (.iastore, 1) := by decide +kernel
theorem dX6_tried_142 : decode cX6_tried 142 = .ok (.iinc 5 1, 3) := by decide +kernel
theorem dX6_tried_145 : decode cX6_tried 145 = .ok (.goto (-25), 3) := by decide +kernel
theorem dX6_tried_148 : decode cX6_tried 148 = .ok (.iload 4, 2) := by decide +kernel
theorem dX6_tried_150 : decode cX6_tried 150 = .ok (.ireturn, 1) := by decide +kernel
theorem dX6_trial_0 : decode cX6_trial 0 = .ok (.iload_n 1, 1) := by decide +kernel
theorem dX6_trial_1 : decode cX6_trial 1 = .ok (.ifCond .lt 17, 3) := by decide +kernel
theorem dX6_trial_4 : decode cX6_trial 4 = .ok (.iload_n 1, 1) := by decide +kernel
theorem dX6_trial_5 : decode cX6_trial 5 = .ok (.iconst 2, 1) := by decide +kernel
theorem dX6_trial_6 : decode cX6_trial 6 = .ok (.if_icmp .gt 12, 3) := by decide +kernel
theorem dX6_trial_9 : decode cX6_trial 9 = .ok (.iload_n 3, 1) := by decide +kernel
theorem dX6_trial_10 : decode cX6_trial 10 = .ok (.ifCond .lt 8, 3) := by decide +kernel
theorem dX6_trial_13 : decode cX6_trial 13 = .ok (.iload_n 3, 1) := by decide +kernel
theorem dX6_trial_14 : decode cX6_trial 14 = .ok (.iconst 3, 1) := by decide +kernel
theorem dX6_trial_15 : decode cX6_trial 15 = .ok (.if_icmp .le 6, 3) := by decide +kernel
theorem dX6_trial_18 : decode cX6_trial 18 = .ok (.bipush (-2), 2) := by decide +kernel
theorem dX6_trial_20 : decode cX6_trial 20 = .ok (.ireturn, 1) := by decide +kernel
theorem dX6_trial_21 : decode cX6_trial 21 = .ok (.aload_n 0, 1) := by decide +kernel
theorem dX6_trial_22 : decode cX6_trial 22 = .ok (.invokevirtual 148, 3) := by decide +kernel
theorem dX6_trial_25 : decode cX6_trial 25 = .ok (.ifCond .ne 8, 3) := by decide +kernel
theorem dX6_trial_28 : decode cX6_trial 28 = .ok (.bipush (-4), 2) := by decide +kernel
theorem dX6_trial_30 : decode cX6_trial 30 = .ok (.goto 10, 3) := by decide +kernel
theorem dX6_trial_33 : decode cX6_trial 33 = .ok (.aload_n 0, 1) := by decide +kernel
theorem dX6_trial_34 : decode cX6_trial 34 = .ok (.iload_n 1, 1) := by decide +kernel
theorem dX6_trial_35 : decode cX6_trial 35 = .ok (.iload_n 2, 1) := by decide +kernel
theorem dX6_trial_36 : decode cX6_trial 36 = .ok (.iload_n 3, 1) := by decide +kernel
theorem dX6_trial_37 : decode cX6_trial 37 = .ok (.invokevirtual 176, 3) := by decide +kernel
theorem dX6_trial_40 : decode cX6_trial 40 = .ok (.ireturn, 1) := by decide +kernel
theorem dX6_cheapest_0 : decode cX6_cheapest 0 = .ok (.aload_n 0, 1) := by decide +kernel
theorem dX6_cheapest_1 : decode cX6_cheapest 1 = .ok (.invokevirtual 148, 3) := by decide +kernel
theorem dX6_cheapest_4 : decode cX6_cheapest 4 = .ok (.ifCond .ne 6, 3) := by decide +kernel
theorem dX6_cheapest_7 : decode cX6_cheapest 7 = .ok (.bipush (-4), 2) := by decide +kernel
theorem dX6_cheapest_9 : decode cX6_cheapest 9 = .ok (.ireturn, 1) := by decide +kernel
theorem dX6_cheapest_10 : decode cX6_cheapest 10 = .ok (.iconst (-1), 1) := by decide +kernel
theorem dX6_cheapest_11 : decode cX6_cheapest 11 = .ok (.istore_n 1, 1) := by decide +kernel
theorem dX6_cheapest_12 : decode cX6_cheapest 12 = .ok (.iconst 0, 1) := by decide +kernel
theorem dX6_cheapest_13 : decode cX6_cheapest 13 = .ok (.istore_n 2, 1) := by decide +kernel
theorem dX6_cheapest_14 : decode cX6_cheapest 14 = .ok (.iconst 0, 1) := by decide +kernel
theorem dX6_cheapest_15 : decode cX6_cheapest 15 = .ok (.istore_n 3, 1) := by decide +kernel
theorem dX6_cheapest_16 : decode cX6_cheapest 16 = .ok (.iload_n 3, 1) := by decide +kernel
theorem dX6_cheapest_17 : decode cX6_cheapest 17 = .ok (.bipush 6, 2) := by decide +kernel
theorem dX6_cheapest_19 : decode cX6_cheapest 19 = .ok (.if_icmp .ge 46, 3) := by decide +kernel
theorem dX6_cheapest_22 : decode cX6_cheapest 22 = .ok (.aload_n 0, 1) := by decide +kernel
theorem dX6_cheapest_23 : decode cX6_cheapest 23 = .ok (.iload_n 3, 1) := by decide +kernel
theorem dX6_cheapest_24 : decode cX6_cheapest 24 = .ok (.iconst 2, 1) := by decide +kernel
theorem dX6_cheapest_25 : decode cX6_cheapest 25 = .ok (.idiv, 1) := by decide +kernel
theorem dX6_cheapest_26 : decode cX6_cheapest 26 = .ok (.iload_n 3, 1) := by decide +kernel
theorem dX6_cheapest_27 : decode cX6_cheapest 27 = .ok (.iconst 2, 1) := by decide +kernel
theorem dX6_cheapest_28 : decode cX6_cheapest 28 = .ok (.irem, 1) := by decide +kernel
theorem dX6_cheapest_29 : decode cX6_cheapest 29 = .ok (.iconst 1, 1) := by decide +kernel
theorem dX6_cheapest_30 : decode cX6_cheapest 30 = .ok (.if_icmp .ne 7, 3) := by decide +kernel
theorem dX6_cheapest_33 : decode cX6_cheapest 33 = .ok (.iconst 1, 1) := by decide +kernel
theorem dX6_cheapest_34 : decode cX6_cheapest 34 = .ok (.goto 4, 3) := by decide +kernel
theorem dX6_cheapest_37 : decode cX6_cheapest 37 = .ok (.iconst 0, 1) := by decide +kernel
theorem dX6_cheapest_38 : decode cX6_cheapest 38 = .ok (.iconst 1, 1) := by decide +kernel
theorem dX6_cheapest_39 : decode cX6_cheapest 39 = .ok (.invokevirtual 176, 3) := by decide +kernel
theorem dX6_cheapest_42 : decode cX6_cheapest 42 = .ok (.istore 4, 2) := by decide +kernel
theorem dX6_cheapest_44 : decode cX6_cheapest 44 = .ok (.iload_n 1, 1) := by decide +kernel
theorem dX6_cheapest_45 : decode cX6_cheapest 45 = .ok (.ifCond .lt 9, 3) := by decide +kernel
theorem dX6_cheapest_48 : decode cX6_cheapest 48 = .ok (.iload 4, 2) := by decide +kernel
theorem dX6_cheapest_50 : decode cX6_cheapest 50 = .ok (.iload_n 2, 1) := by decide +kernel
theorem dX6_cheapest_51 : decode cX6_cheapest 51 = .ok (.if_icmp .ge 8, 3) := by decide +kernel
theorem dX6_cheapest_54 : decode cX6_cheapest 54 = .ok (.iload_n 3, 1) := by decide +kernel
theorem dX6_cheapest_55 : decode cX6_cheapest 55 = .ok (.istore_n 1, 1) := by decide +kernel
theorem dX6_cheapest_56 : decode cX6_cheapest 56 = .ok (.iload 4, 2) := by decide +kernel
theorem dX6_cheapest_58 : decode cX6_cheapest 58 = .ok (.istore_n 2, 1) := by decide +kernel
theorem dX6_cheapest_59 : decode cX6_cheapest 59 = .ok (.iinc 3 1, 3) := by decide +kernel
theorem dX6_cheapest_62 : decode cX6_cheapest 62 = .ok (.goto (-46), 3) := by decide +kernel
theorem dX6_cheapest_65 : decode cX6_cheapest 65 = .ok (.iload_n 1, 1) := by decide +kernel
theorem dX6_cheapest_66 : decode cX6_cheapest 66 = .ok (.ireturn, 1) := by decide +kernel
theorem dX6_count_0 : decode cX6_count 0 = .ok (.iload_n 1, 1) := by decide +kernel
theorem dX6_count_1 : decode cX6_count 1 = .ok (.ifCond .lt 9, 3) := by decide +kernel
theorem dX6_count_4 : decode cX6_count 4 = .ok (.iload_n 1, 1) := by decide +kernel
theorem dX6_count_5 : decode cX6_count 5 = .ok (.bipush 9, 2) := by decide +kernel
theorem dX6_count_7 : decode cX6_count 7 = .ok (.if_icmp .le 6, 3) := by decide +kernel
theorem dX6_count_10 : decode cX6_count 10 = .ok (.bipush (-2), 2) := by decide +kernel
theorem dX6_count_12 : decode cX6_count 12 = .ok (.ireturn, 1) := by decide +kernel
theorem dX6_count_13 : decode cX6_count 13 = .ok (.iload_n 1, 1) := by decide +kernel
theorem dX6_count_14 : decode cX6_count 14 = .ok (.tableswitch 137 0 8 #[50, 55, 60, 69, 100, 105, 114, 123, 132], 50) := by decide +kernel
theorem dX6_count_64 : decode cX6_count 64 = .ok (.aload_n 0, 1) := by decide +kernel
theorem dX6_count_65 : decode cX6_count 65 = .ok (.invokevirtual 40, 3) := by decide +kernel
theorem dX6_count_68 : decode cX6_count 68 = .ok (.ireturn, 1) := by decide +kernel
theorem dX6_count_69 : decode cX6_count 69 = .ok (.aload_n 0, 1) := by decide +kernel
theorem dX6_count_70 : decode cX6_count 70 = .ok (.invokevirtual 148, 3) := by decide +kernel
theorem dX6_count_73 : decode cX6_count 73 = .ok (.ireturn, 1) := by decide +kernel
theorem dX6_count_74 : decode cX6_count 74 = .ok (.aload_n 0, 1) := by decide +kernel
theorem dX6_count_75 : decode cX6_count 75 = .ok (.getfield 7, 3) := by decide +kernel
theorem dX6_count_78 : decode cX6_count 78 = .ok (.sipush 558, 3) := by decide +kernel
theorem dX6_count_81 : decode cX6_count 81 = .ok (.iaload, 1) := by decide +kernel
theorem dX6_count_82 : decode cX6_count 82 = .ok (.ireturn, 1) := by decide +kernel
theorem dX6_count_83 : decode cX6_count 83 = .ok (.iconst 0, 1) := by decide +kernel
theorem dX6_count_84 : decode cX6_count 84 = .ok (.istore_n 2, 1) := by decide +kernel
theorem dX6_count_85 : decode cX6_count 85 = .ok (.iconst 0, 1) := by decide +kernel
theorem dX6_count_86 : decode cX6_count 86 = .ok (.istore_n 3, 1) := by decide +kernel
theorem dX6_count_87 : decode cX6_count 87 = .ok (.iload_n 3, 1) := by decide +kernel
theorem dX6_count_88 : decode cX6_count 88 = .ok (.bipush 60, 2) := by decide +kernel
theorem dX6_count_90 : decode cX6_count 90 = .ok (.if_icmp .ge 22, 3) := by decide +kernel
theorem dX6_count_93 : decode cX6_count 93 = .ok (.iload_n 2, 1) := by decide +kernel
theorem dX6_count_94 : decode cX6_count 94 = .ok (.aload_n 0, 1) := by decide +kernel
theorem dX6_count_95 : decode cX6_count 95 = .ok (.getfield 7, 3) := by decide +kernel
theorem dX6_count_98 : decode cX6_count 98 = .ok (.sipush 498, 3) := by decide +kernel
theorem dX6_count_101 : decode cX6_count 101 = .ok (.iload_n 3, 1) := by decide +kernel
theorem dX6_count_102 : decode cX6_count 102 = .ok (.iadd, 1) := by decide +kernel
theorem dX6_count_103 : decode cX6_count 103 = .ok (.iaload, 1) := by decide +kernel
theorem dX6_count_104 : decode cX6_count 104 = .ok (.iadd, 1) := by decide +kernel
theorem dX6_count_105 : decode cX6_count 105 = .ok (.istore_n 2, 1) := by decide +kernel
theorem dX6_count_106 : decode cX6_count 106 = .ok (.iinc 3 1, 3) := by decide +kernel
theorem dX6_count_109 : decode cX6_count 109 = .ok (.goto (-22), 3) := by decide +kernel
theorem dX6_count_112 : decode cX6_count 112 = .ok (.iload_n 2, 1) := by decide +kernel
theorem dX6_count_113 : decode cX6_count 113 = .ok (.ireturn, 1) := by decide +kernel
theorem dX6_count_114 : decode cX6_count 114 = .ok (.aload_n 0, 1) := by decide +kernel
theorem dX6_count_115 : decode cX6_count 115 = .ok (.invokevirtual 180, 3) := by decide +kernel
theorem dX6_count_118 : decode cX6_count 118 = .ok (.ireturn, 1) := by decide +kernel
theorem dX6_count_119 : decode cX6_count 119 = .ok (.aload_n 0, 1) := by decide +kernel
theorem dX6_count_120 : decode cX6_count 120 = .ok (.getfield 7, 3) := by decide +kernel
theorem dX6_count_123 : decode cX6_count 123 = .ok (.sipush 559, 3) := by decide +kernel
theorem dX6_count_126 : decode cX6_count 126 = .ok (.iaload, 1) := by decide +kernel
theorem dX6_count_127 : decode cX6_count 127 = .ok (.ireturn, 1) := by decide +kernel
theorem dX6_count_128 : decode cX6_count 128 = .ok (.aload_n 0, 1) := by decide +kernel
theorem dX6_count_129 : decode cX6_count 129 = .ok (.getfield 7, 3) := by decide +kernel
theorem dX6_count_132 : decode cX6_count 132 = .ok (.sipush 566, 3) := by decide +kernel
theorem dX6_count_135 : decode cX6_count 135 = .ok (.iaload, 1) := by decide +kernel
theorem dX6_count_136 : decode cX6_count 136 = .ok (.ireturn, 1) := by decide +kernel
theorem dX6_count_137 : decode cX6_count 137 = .ok (.aload_n 0, 1) := by decide +kernel
theorem dX6_count_138 : decode cX6_count 138 = .ok (.getfield 7, 3) := by decide +kernel
theorem dX6_count_141 : decode cX6_count 141 = .ok (.sipush 567, 3) := by decide +kernel
