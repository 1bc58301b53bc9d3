theorem dX5_trial_48 : decode cX5_trial 48 = .ok (.invokevirtual 135, 3) := by decide +kernel
theorem dX5_trial_51 : decode cX5_trial 51 = .ok (.aload_n 0, 1) := by decide +kernel
theorem dX5_trial_52 : decode cX5_trial 52 = .ok (.getfield 40, 3) := by decide +kernel
theorem dX5_trial_55 : decode cX5_trial 55 = .ok (.aload_n 0, 1) := by decide +kernel
theorem dX5_trial_56 : decode cX5_trial 56 = .ok (.getfield 12, 3) := by decide +kernel
theorem dX5_trial_59 : decode cX5_trial 59 = .ok (.getfield 57, 3) := by decide +kernel
theorem dX5_trial_62 : decode cX5_trial 62 = .ok (.sipush 240, 3) := by decide +kernel
theorem dX5_trial_65 : decode cX5_trial 65 = .ok (.invokevirtual 150, 3) := by decide +kernel
theorem dX5_trial_68 : decode cX5_trial 68 = .ok (.pop, 1) := by decide +kernel
theorem dX5_trial_69 : decode cX5_trial 69 = .ok (.iload_n 3, 1) := by decide +kernel
theorem dX5_trial_70 : decode cX5_trial 70 = .ok (.tableswitch 57 0 2 #[26, 34, 42], 26) := by decide +kernel
theorem dX5_trial_96 : decode cX5_trial 96 = .ok (.aload_n 0, 1) := by decide +kernel
theorem dX5_trial_97 : decode cX5_trial 97 = .ok (.getfield 40, 3) := by decide +kernel
theorem dX5_trial_100 : decode cX5_trial 100 = .ok (.getfield 270, 3) := by decide +kernel
theorem dX5_trial_103 : decode cX5_trial 103 = .ok (.ireturn, 1) := by decide +kernel
theorem dX5_trial_104 : decode cX5_trial 104 = .ok (.aload_n 0, 1) := by decide +kernel
theorem dX5_trial_105 : decode cX5_trial 105 = .ok (.getfield 40, 3) := by decide +kernel
theorem dX5_trial_108 : decode cX5_trial 108 = .ok (.invokevirtual 279, 3) := by decide +kernel
theorem dX5_trial_111 : decode cX5_trial 111 = .ok (.ireturn, 1) := by decide +kernel
theorem dX5_trial_112 : decode cX5_trial 112 = .ok (.aload_n 0, 1) := by decide +kernel
theorem dX5_trial_113 : decode cX5_trial 113 = .ok (.getfield 40, 3) := by decide +kernel
theorem dX5_trial_116 : decode cX5_trial 116 = .ok (.aload_n 0, 1) := by decide +kernel
theorem dX5_trial_117 : decode cX5_trial 117 = .ok (.getfield 12, 3) := by decide +kernel
theorem dX5_trial_120 : decode cX5_trial 120 = .ok (.getfield 57, 3) := by decide +kernel
theorem dX5_trial_123 : decode cX5_trial 123 = .ok (.invokevirtual 294, 3) := by decide +kernel
theorem dX5_trial_126 : decode cX5_trial 126 = .ok (.ireturn, 1) := by decide +kernel
theorem dX5_trial_127 : decode cX5_trial 127 = .ok (.aload_n 0, 1) := by decide +kernel
theorem dX5_trial_128 : decode cX5_trial 128 = .ok (.getfield 40, 3) := by decide +kernel
theorem dX5_trial_131 : decode cX5_trial 131 = .ok (.invokevirtual 147, 3) := by decide +kernel
theorem dX5_trial_134 : decode cX5_trial 134 = .ok (.ireturn, 1) := by decide +kernel
theorem dX5_cheapest_0 : decode cX5_cheapest 0 = .ok (.aload_n 0, 1) := by decide +kernel
theorem dX5_cheapest_1 : decode cX5_cheapest 1 = .ok (.getfield 12, 3) := by decide +kernel
theorem dX5_cheapest_4 : decode cX5_cheapest 4 = .ok (.getfield 57, 3) := by decide +kernel
theorem dX5_cheapest_7 : decode cX5_cheapest 7 = .ok (.invokevirtual 128, 3) := by decide +kernel
theorem dX5_cheapest_10 : decode cX5_cheapest 10 = .ok (.ifCond .ne 6, 3) := by decide +kernel
theorem dX5_cheapest_13 : decode cX5_cheapest 13 = .ok (.bipush (-4), 2) := by decide +kernel
theorem dX5_cheapest_15 : decode cX5_cheapest 15 = .ok (.ireturn, 1) := by decide +kernel
theorem dX5_cheapest_16 : decode cX5_cheapest 16 = .ok (.iconst 0, 1) := by decide +kernel
theorem dX5_cheapest_17 : decode cX5_cheapest 17 = .ok (.istore_n 1, 1) := by decide +kernel
theorem dX5_cheapest_18 : decode cX5_cheapest 18 = .ok (.iconst 0, 1) := by decide +kernel
theorem dX5_cheapest_19 : decode cX5_cheapest 19 = .ok (.istore_n 2, 1) := by decide +kernel
theorem dX5_cheapest_20 : decode cX5_cheapest 20 = .ok (.iconst 0, 1) := by decide +kernel
theorem dX5_cheapest_21 : decode cX5_cheapest 21 = .ok (.istore_n 3, 1) := by decide +kernel
theorem dX5_cheapest_22 : decode cX5_cheapest 22 = .ok (.iload_n 3, 1) := by decide +kernel
theorem dX5_cheapest_23 : decode cX5_cheapest 23 = .ok (.bipush 6, 2) := by decide +kernel
theorem dX5_cheapest_25 : decode cX5_cheapest 25 = .ok (.if_icmp .ge 80, 3) := by decide +kernel
theorem dX5_cheapest_28 : decode cX5_cheapest 28 = .ok (.aload_n 0, 1) := by decide +kernel
theorem dX5_cheapest_29 : decode cX5_cheapest 29 = .ok (.getfield 40, 3) := by decide +kernel
theorem dX5_cheapest_32 : decode cX5_cheapest 32 = .ok (.aload_n 0, 1) := by decide +kernel
theorem dX5_cheapest_33 : decode cX5_cheapest 33 = .ok (.getfield 12, 3) := by decide +kernel
theorem dX5_cheapest_36 : decode cX5_cheapest 36 = .ok (.getfield 57, 3) := by decide +kernel
theorem dX5_cheapest_39 : decode cX5_cheapest 39 = .ok (.iload_n 3, 1) := by decide +kernel
theorem dX5_cheapest_40 : decode cX5_cheapest 40 = .ok (.iconst 1, 1) := by decide +kernel
theorem dX5_cheapest_41 : decode cX5_cheapest 41 = .ok (.ishr, 1) := by decide +kernel
theorem dX5_cheapest_42 : decode cX5_cheapest 42 = .ok (.iload_n 3, 1) := by decide +kernel
theorem dX5_cheapest_43 : decode cX5_cheapest 43 = .ok (.iconst 1, 1) := by decide +kernel
theorem dX5_cheapest_44 : decode cX5_cheapest 44 = .ok (.iand, 1) := by decide +kernel
theorem dX5_cheapest_45 : decode cX5_cheapest 45 = .ok (.iconst 1, 1) := by decide +kernel
theorem dX5_cheapest_46 : decode cX5_cheapest 46 = .ok (.if_icmp .ne 7, 3) := by decide +kernel
theorem dX5_cheapest_49 : decode cX5_cheapest 49 = .ok (.iconst 1, 1) := by decide +kernel
theorem dX5_cheapest_50 : decode cX5_cheapest 50 = .ok (.goto 4, 3) := by decide +kernel
theorem dX5_cheapest_53 : decode cX5_cheapest 53 = .ok (.iconst 0, 1) := by decide +kernel
theorem dX5_cheapest_54 : decode cX5_cheapest 54 = .ok (.invokevirtual 135, 3) := by decide +kernel
theorem dX5_cheapest_57 : decode cX5_cheapest 57 = .ok (.aload_n 0, 1) := by decide +kernel
theorem dX5_cheapest_58 : decode cX5_cheapest 58 = .ok (.getfield 40, 3) := by decide +kernel
theorem dX5_cheapest_61 : decode cX5_cheapest 61 = .ok (.aload_n 0, 1) := by decide +kernel
theorem dX5_cheapest_62 : decode cX5_cheapest 62 = .ok (.getfield 12, 3) := by decide +kernel
theorem dX5_cheapest_65 : decode cX5_cheapest 65 = .ok (.getfield 57, 3) := by decide +kernel
theorem dX5_cheapest_68 : decode cX5_cheapest 68 = .ok (.sipush 240, 3) := by decide +kernel
theorem dX5_cheapest_71 : decode cX5_cheapest 71 = .ok (.invokevirtual 150, 3) := by decide +kernel
theorem dX5_cheapest_74 : decode cX5_cheapest 74 = .ok (.pop, 1) := by decide +kernel
theorem dX5_cheapest_75 : decode cX5_cheapest 75 = .ok (.aload_n 0, 1) := by decide +kernel
theorem dX5_cheapest_76 : decode cX5_cheapest 76 = .ok (.getfield 40, 3) := by decide +kernel
theorem dX5_cheapest_79 : decode cX5_cheapest 79 = .ok (.invokevirtual 279, 3) := by decide +kernel
theorem dX5_cheapest_82 : decode cX5_cheapest 82 = .ok (.istore 4, 2) := by decide +kernel
theorem dX5_cheapest_84 : decode cX5_cheapest 84 = .ok (.iload_n 3, 1) := by decide +kernel
theorem dX5_cheapest_85 : decode cX5_cheapest 85 = .ok (.ifCond .eq 9, 3) := by decide +kernel
theorem dX5_cheapest_88 : decode cX5_cheapest 88 = .ok (.iload 4, 2) := by decide +kernel
theorem dX5_cheapest_90 : decode cX5_cheapest 90 = .ok (.iload_n 2, 1) := by decide +kernel
theorem dX5_cheapest_91 : decode cX5_cheapest 91 = .ok (.if_icmp .ge 8, 3) := by decide +kernel
theorem dX5_cheapest_94 : decode cX5_cheapest 94 = .ok (.iload_n 3, 1) := by decide +kernel
theorem dX5_cheapest_95 : decode cX5_cheapest 95 = .ok (.istore_n 1, 1) := by decide +kernel
theorem dX5_cheapest_96 : decode cX5_cheapest 96 = .ok (.iload 4, 2) := by decide +kernel
theorem dX5_cheapest_98 : decode cX5_cheapest 98 = .ok (.istore_n 2, 1) := by decide +kernel
theorem dX5_cheapest_99 : decode cX5_cheapest 99 = .ok (.iinc 3 1, 3) := by decide +kernel
theorem dX5_cheapest_102 : decode cX5_cheapest 102 = .ok (.goto (-80), 3) := by decide +kernel
theorem dX5_cheapest_105 : decode cX5_cheapest 105 = .ok (.iload_n 1, 1) := by decide +kernel
theorem dX5_cheapest_106 : decode cX5_cheapest 106 = .ok (.ireturn, 1) := by decide +kernel
theorem dX5_count_0 : decode cX5_count 0 = .ok (.iload_n 1, 1) := by decide +kernel
theorem dX5_count_1 : decode cX5_count 1 = .ok (.tableswitch 159 0 9 #[55, 66, 77, 88, 102, 113, 127, 135, 143, 151], 55) := by decide +kernel
theorem dX5_count_56 : decode cX5_count 56 = .ok (.aload_n 0, 1) := by decide +kernel
theorem dX5_count_57 : decode cX5_count 57 = .ok (.getfield 12, 3) := by decide +kernel
theorem dX5_count_60 : decode cX5_count 60 = .ok (.getfield 57, 3) := by decide +kernel
theorem dX5_count_63 : decode cX5_count 63 = .ok (.invokevirtual 207, 3) := by decide +kernel
theorem dX5_count_66 : decode cX5_count 66 = .ok (.ireturn, 1) := by decide +kernel
theorem dX5_count_67 : decode cX5_count 67 = .ok (.aload_n 0, 1) := by decide +kernel
theorem dX5_count_68 : decode cX5_count 68 = .ok (.getfield 12, 3) := by decide +kernel
theorem dX5_count_71 : decode cX5_count 71 = .ok (.getfield 57, 3) := by decide +kernel
theorem dX5_count_74 : decode cX5_count 74 = .ok (.invokevirtual 128, 3) := by decide +kernel
theorem dX5_count_77 : decode cX5_count 77 = .ok (.ireturn, 1) := by decide +kernel
theorem dX5_count_78 : decode cX5_count 78 = .ok (.aload_n 0, 1) := by decide +kernel
theorem dX5_count_79 : decode cX5_count 79 = .ok (.getfield 12, 3) := by decide +kernel
theorem dX5_count_82 : decode cX5_count 82 = .ok (.getfield 57, 3) := by decide +kernel
theorem dX5_count_85 : decode cX5_count 85 = .ok (.getfield 110, 3) := by decide +kernel
theorem dX5_count_88 : decode cX5_count 88 = .ok (.ireturn, 1) := by decide +kernel
theorem dX5_count_89 : decode cX5_count 89 = .ok (.aload_n 0, 1) := by decide +kernel
theorem dX5_count_90 : decode cX5_count 90 = .ok (.getfield 12, 3) := by decide +kernel
theorem dX5_count_93 : decode cX5_count 93 = .ok (.getfield 57, 3) := by decide +kernel
theorem dX5_count_96 : decode cX5_count 96 = .ok (.getfield 90, 3) := by decide +kernel
theorem dX5_count_99 : decode cX5_count 99 = .ok (.invokestatic 300, 3) := by decide +kernel
theorem dX5_count_102 : decode cX5_count 102 = .ok (.ireturn, 1) := by decide +kernel
theorem dX5_count_103 : decode cX5_count 103 = .ok (.aload_n 0, 1) := by decide +kernel
theorem dX5_count_104 : decode cX5_count 104 = .ok (.getfield 12, 3) := by decide +kernel
theorem dX5_count_107 : decode cX5_count 107 = .ok (.getfield 57, 3) := by decide +kernel
theorem dX5_count_110 : decode cX5_count 110 = .ok (.invokevirtual 305, 3) := by decide +kernel
theorem dX5_count_113 : decode cX5_count 113 = .ok (.ireturn, 1) := by decide +kernel
theorem dX5_count_114 : decode cX5_count 114 = .ok (.aload_n 0, 1) := by decide +kernel
theorem dX5_count_115 : decode cX5_count 115 = .ok (.getfield 12, 3) := by decide +kernel
theorem dX5_count_118 : decode cX5_count 118 = .ok (.getfield 51, 3) := by decide +kernel
theorem dX5_count_121 : decode cX5_count 121 = .ok (.getfield 54, 3) := by decide +kernel
theorem dX5_count_124 : decode cX5_count 124 = .ok (.invokestatic 143, 3) := by decide +kernel
theorem dX5_count_127 : decode cX5_count 127 = .ok (.ireturn, 1) := by decide +kernel
theorem dX5_count_128 : decode cX5_count 128 = .ok (.aload_n 0, 1) := by decide +kernel
theorem dX5_count_129 : decode cX5_count 129 = .ok (.getfield 12, 3) := by decide +kernel
theorem dX5_count_132 : decode cX5_count 132 = .ok (.getfield 132, 3) := by decide +kernel
theorem dX5_count_135 : decode cX5_count 135 = .ok (.ireturn, 1) := by decide +kernel
theorem dX5_count_136 : decode cX5_count 136 = .ok (.aload_n 0, 1) := by decide +kernel
theorem dX5_count_137 : decode cX5_count 137 = .ok (.getfield 12, 3) := by decide +kernel
theorem dX5_count_140 : decode cX5_count 140 = .ok (.getfield 154, 3) := by decide +kernel
theorem dX5_count_143 : decode cX5_count 143 = .ok (.ireturn, 1) := by decide +kernel
theorem dX5_count_144 : decode cX5_count 144 = .ok (.aload_n 0, 1) := by decide +kernel
theorem dX5_count_145 : decode cX5_count 145 = .ok (.getfield 19, 3) := by decide +kernel
theorem dX5_count_148 : decode cX5_count 148 = .ok (.getfield 198, 3) := by decide +kernel
theorem dX5_count_151 : decode cX5_count 151 = .ok (.ireturn, 1) := by decide +kernel
theorem dX5_count_152 : decode cX5_count 152 = .ok (.aload_n 0, 1) := by decide +kernel
theorem dX5_count_153 : decode cX5_count 153 = .ok (.getfield 33, 3) := by decide +kernel
theorem dX5_count_156 : decode cX5_count 156 = .ok (.getfield 161, 3) := by decide +kernel
theorem dX5_count_159 : decode cX5_count 159 = .ok (.ireturn, 1) := by decide +kernel
theorem dX5_count_160 : decode cX5_count 160 = .ok (.bipush (-2), 2) := by decide +kernel
theorem dX5_count_162 : decode cX5_count 162 = .ok (.ireturn, 1) := by decide +kernel
theorem dX5_isList_0 : decode cX5_isList 0 = .ok (.iload_n 0, 1) := by decide +kernel
theorem dX5_isList_1 : decode cX5_isList 1 = .ok (.ifCond .lt 13, 3) := by decide +kernel
theorem dX5_isList_4 : decode cX5_isList 4 = .ok (.iload_n 0, 1) := by decide +kernel
theorem dX5_isList_5 : decode cX5_isList 5 = .ok (.bipush 6, 2) := by decide +kernel
theorem dX5_isList_7 : decode cX5_isList 7 = .ok (.if_icmp .ge 7, 3) := by decide +kernel
theorem dX5_isList_10 : decode cX5_isList 10 = .ok (.iconst 1, 1) := by decide +kernel
theorem dX5_isList_11 : decode cX5_isList 11 = .ok (.goto 4, 3) := by decide +kernel
theorem dX5_isList_14 : decode cX5_isList 14 = .ok (.iconst 0, 1) := by decide +kernel
theorem dX5_isList_15 : decode cX5_isList 15 = .ok (.ireturn, 1) := by decide +kernel
theorem dX5_isDocument_0 : decode cX5_isDocument 0 = .ok (.iload_n 0, 1) := by decide +kernel
theorem dX5_isDocument_1 : decode cX5_isDocument 1 = .ok (.ifCond .lt 13, 3) := by decide +kernel
theorem dX5_isDocument_4 : decode cX5_isDocument 4 = .ok (.iload_n 0, 1) := by decide +kernel
theorem dX5_isDocument_5 : decode cX5_isDocument 5 = .ok (.bipush 60, 2) := by decide +kernel
theorem dX5_isDocument_7 : decode cX5_isDocument 7 = .ok (.if_icmp .ge 7, 3) := by decide +kernel
theorem dX5_isDocument_10 : decode cX5_isDocument 10 = .ok (.iconst 1, 1) := by decide +kernel
theorem dX5_isDocument_11 : decode cX5_isDocument 11 = .ok (.goto 4, 3) := by decide +kernel
theorem dX5_isDocument_14 : decode cX5_isDocument 14 = .ok (.iconst 0, 1) := by decide +kernel
theorem dX5_isDocument_15 : decode cX5_isDocument 15 = .ok (.ireturn, 1) := by decide +kernel
theorem dX5_isWay_0 : decode cX5_isWay 0 = .ok (.iload_n 0, 1) := by decide +kernel
theorem dX5_isWay_1 : decode cX5_isWay 1 = .ok (.ifCond .lt 12, 3) := by decide +kernel
theorem dX5_isWay_4 : decode cX5_isWay 4 = .ok (.iload_n 0, 1) := by decide +kernel
theorem dX5_isWay_5 : decode cX5_isWay 5 = .ok (.iconst 2, 1) := by decide +kernel
theorem dX5_isWay_6 : decode cX5_isWay 6 = .ok (.if_icmp .gt 7, 3) := by decide +kernel
theorem dX5_isWay_9 : decode cX5_isWay 9 = .ok (.iconst 1, 1) := by decide +kernel
theorem dX5_isWay_10 : decode cX5_isWay 10 = .ok (.goto 4, 3) := by decide +kernel
theorem dX5_isWay_13 : decode cX5_isWay 13 = .ok (.iconst 0, 1) := by decide +kernel
theorem dX5_isWay_14 : decode cX5_isWay 14 = .ok (.ireturn, 1) := by decide +kernel
theorem dX5_oneIf_0 : decode cX5_oneIf 0 = .ok (.iload_n 0, 1) := by decide +kernel
theorem dX5_oneIf_1 : decode cX5_oneIf 1 = .ok (.ifCond .eq 7, 3) := by decide +kernel
theorem dX5_oneIf_4 : decode cX5_oneIf 4 = .ok (.iconst 1, 1) := by decide +kernel
theorem dX5_oneIf_5 : decode cX5_oneIf 5 = .ok (.goto 4, 3) := by decide +kernel
theorem dX5_oneIf_8 : decode cX5_oneIf 8 = .ok (.iconst 0, 1) := by decide +kernel
theorem dX5_oneIf_9 : decode cX5_oneIf 9 = .ok (.ireturn, 1) := by decide +kernel
theorem dX5_at_0 : decode cX5_at 0 = .ok (.iload_n 1, 1) := by decide +kernel
theorem dX5_at_1 : decode cX5_at 1 = .ok (.ifCond .lt 15, 3) := by decide +kernel
theorem dX5_at_4 : decode cX5_at 4 = .ok (.iload_n 1, 1) := by decide +kernel
theorem dX5_at_5 : decode cX5_at 5 = .ok (.aload_n 0, 1) := by decide +kernel
theorem dX5_at_6 : decode cX5_at 6 = .ok (.arraylength, 1) := by decide +kernel
theorem dX5_at_7 : decode cX5_at 7 = .ok (.if_icmp .ge 9, 3) := by decide +kernel
theorem dX5_at_10 : decode cX5_at 10 = .ok (.aload_n 0, 1) := by decide +kernel
theorem dX5_at_11 : decode cX5_at 11 = .ok (.iload_n 1, 1) := by decide +kernel
theorem dX5_at_12 : decode cX5_at 12 = .ok (.iaload, 1) := by decide +kernel
theorem dX5_at_13 : decode cX5_at 13 = .ok (.goto 4, 3) := by decide +kernel
theorem dX5_at_16 : decode cX5_at 16 = .ok (.iconst 0, 1) := by decide +kernel
theorem dX5_at_17 : decode cX5_at 17 = .ok (.ireturn, 1) := by decide +kernel
theorem dX5_put_0 : decode cX5_put 0 = .ok (.iload_n 1, 1) := by decide +kernel
theorem dX5_put_1 : decode cX5_put 1 = .ok (.ifCond .lt 13, 3) := by decide +kernel
theorem dX5_put_4 : decode cX5_put 4 = .ok (.iload_n 1, 1) := by decide +kernel
theorem dX5_put_5 : decode cX5_put 5 = .ok (.aload_n 0, 1) := by decide +kernel
theorem dX5_put_6 : decode cX5_put 6 = .ok (.arraylength, 1) := by decide +kernel
theorem dX5_put_7 : decode cX5_put 7 = .ok (.if_icmp .ge 7, 3) := by decide +kernel
theorem dX5_put_10 : decode cX5_put 10 = .ok (.aload_n 0, 1) := by decide +kernel
theorem dX5_put_11 : decode cX5_put 11 = .ok (.iload_n 1, 1) := by decide +kernel
theorem dX5_put_12 : decode cX5_put 12 = .ok (.iload_n 2, 1) := by decide +kernel
theorem dX5_put_13 : decode cX5_put 13 = .ok (.iastore, 1) := by decide +kernel
theorem dX5_put_14 : decode cX5_put 14 = .ok (.return_, 1) := by decide +kernel
theorem dX5_copyRow_0 : decode cX5_copyRow 0 = .ok (.aload_n 0, 1) := by decide +kernel
theorem dX5_copyRow_1 : decode cX5_copyRow 1 = .ok (.iconst 0, 1) := by decide +kernel
theorem dX5_copyRow_2 : decode cX5_copyRow 2 = .ok (.aload_n 1, 1) := by decide +kernel
theorem dX5_copyRow_3 : decode cX5_copyRow 3 = .ok (.iconst 0, 1) := by decide +kernel
theorem dX5_copyRow_4 : decode cX5_copyRow 4 = .ok (.aload_n 0, 1) := by decide +kernel
theorem dX5_copyRow_5 : decode cX5_copyRow 5 = .ok (.arraylength, 1) := by decide +kernel
theorem dX5_copyRow_6 : decode cX5_copyRow 6 = .ok (.aload_n 1, 1) := by decide +kernel
theorem dX5_copyRow_7 : decode cX5_copyRow 7 = .ok (.arraylength, 1) := by decide +kernel
theorem dX5_copyRow_8 : decode cX5_copyRow 8 = .ok (.invokestatic 308, 3) := by decide +kernel
theorem dX5_copyRow_11 : decode cX5_copyRow 11 = .ok (.invokestatic 313, 3) := by decide +kernel
theorem dX5_copyRow_14 : decode cX5_copyRow 14 = .ok (.return_, 1) := by decide +kernel
theorem dX6_init_0 : decode cX6_init 0 = .ok (.aload_n 0, 1) := by decide +kernel
theorem dX6_init_1 : decode cX6_init 1 = .ok (.invokespecial 1, 3) := by decide +kernel
theorem dX6_init_4 : decode cX6_init 4 = .ok (.aload_n 0, 1) := by decide +kernel
theorem dX6_init_5 : decode cX6_init 5 = .ok (.sipush 706, 3) := by decide +kernel
theorem dX6_init_8 : decode cX6_init 8 = .ok (.newarray .int, 2) := by decide +kernel
theorem dX6_init_10 : decode cX6_init 10 = .ok (.putfield 7, 3) := by decide +kernel
theorem dX6_init_13 : decode cX6_init 13 = .ok (.aload_n 0, 1) := by decide +kernel
theorem dX6_init_14 : decode cX6_init 14 = .ok (.sipush 2824, 3) := by decide +kernel
theorem dX6_init_17 : decode cX6_init 17 = .ok (.newarray .int, 2) := by decide +kernel
theorem dX6_init_19 : decode cX6_init 19 = .ok (.putfield 13, 3) := by decide +kernel
theorem dX6_init_22 : decode cX6_init 22 = .ok (.aload_n 0, 1) := by decide +kernel
theorem dX6_init_23 : decode cX6_init 23 = .ok (.sipush 706, 3) := by decide +kernel
theorem dX6_init_26 : decode cX6_init 26 = .ok (.newarray .int, 2) := by decide +kernel
theorem dX6_init_28 : decode cX6_init 28 = .ok (.putfield 16, 3) := by decide +kernel
theorem dX6_init_31 : decode cX6_init 31 = .ok (.aload_n 0, 1) := by decide +kernel
theorem dX6_init_32 : decode cX6_init 32 = .ok (.sipush 706, 3) := by decide +kernel
theorem dX6_init_35 : decode cX6_init 35 = .ok (.newarray .int, 2) := by decide +kernel
theorem dX6_init_37 : decode cX6_init 37 = .ok (.putfield 19, 3) := by decide +kernel
theorem dX6_init_40 : decode cX6_init 40 = .ok (.aload_n 0, 1) := by decide +kernel
theorem dX6_init_41 : decode cX6_init 41 = .ok (.bipush 60, 2) := by decide +kernel
theorem dX6_init_43 : decode cX6_init 43 = .ok (.newarray .int, 2) := by decide +kernel
theorem dX6_init_45 : decode cX6_init 45 = .ok (.putfield 22, 3) := by decide +kernel
theorem dX6_init_48 : decode cX6_init 48 = .ok (.aload_n 0, 1) := by decide +kernel
theorem dX6_init_49 : decode cX6_init 49 = .ok (.bipush 40, 2) := by decide +kernel
theorem dX6_init_51 : decode cX6_init 51 = .ok (.newarray .char, 2) := by decide +kernel
theorem dX6_init_53 : decode cX6_init 53 = .ok (.putfield 25, 3) := by decide +kernel
theorem dX6_init_56 : decode cX6_init 56 = .ok (.aload_n 0, 1) := by decide +kernel
theorem dX6_init_57 : decode cX6_init 57 = .ok (.iconst 3, 1) := by decide +kernel
theorem dX6_init_58 : decode cX6_init 58 = .ok (.newarray .int, 2) := by decide +kernel
theorem dX6_init_60 : decode cX6_init 60 = .ok (.putfield 29, 3) := by decide +kernel
theorem dX6_init_63 : decode cX6_init 63 = .ok (.aload_n 0, 1) := by decide +kernel
theorem dX6_init_64 : decode cX6_init 64 = .ok (.getfield 7, 3) := by decide +kernel
theorem dX6_init_67 : decode cX6_init 67 = .ok (.sipush 558, 3) := by decide +kernel
theorem dX6_init_70 : decode cX6_init 70 = .ok (.iconst 3, 1) := by decide +kernel
theorem dX6_init_71 : decode cX6_init 71 = .ok (.iastore, 1) := by decide +kernel
theorem dX6_init_72 : decode cX6_init 72 = .ok (.aload_n 0, 1) := by decide +kernel
theorem dX6_init_73 : decode cX6_init 73 = .ok (.getfield 7, 3) := by decide +kernel
theorem dX6_init_76 : decode cX6_init 76 = .ok (.sipush 563, 3) := by decide +kernel
theorem dX6_init_79 : decode cX6_init 79 = .ok (.iconst (-1), 1) := by decide +kernel
theorem dX6_init_80 : decode cX6_init 80 = .ok (.iastore, 1) := by decide +kernel
theorem dX6_init_81 : decode cX6_init 81 = .ok (.return_, 1) := by decide +kernel
theorem dX6_record_0 : decode cX6_record 0 = .ok (.aload_n 0, 1) := by decide +kernel
theorem dX6_record_1 : decode cX6_record 1 = .ok (.getfield 32, 3) := by decide +kernel
theorem dX6_record_4 : decode cX6_record 4 = .ok (.iconst 4, 1) := by decide +kernel
theorem dX6_record_5 : decode cX6_record 5 = .ok (.if_icmp .ne 44, 3) := by decide +kernel
theorem dX6_record_8 : decode cX6_record 8 = .ok (.iconst 0, 1) := by decide +kernel
theorem dX6_record_9 : decode cX6_record 9 = .ok (.istore_n 1, 1) := by decide +kernel
theorem dX6_record_10 : decode cX6_record 10 = .ok (.iload_n 1, 1) := by decide +kernel
theorem dX6_record_11 : decode cX6_record 11 = .ok (.sipush 2118, 3) := by decide +kernel
theorem dX6_record_14 : decode cX6_record 14 = .ok (.if_icmp .ge 25, 3) := by decide +kernel
theorem dX6_record_17 : decode cX6_record 17 = .ok (.aload_n 0, 1) := by decide +kernel
theorem dX6_record_18 : decode cX6_record 18 = .ok (.getfield 13, 3) := by decide +kernel
theorem dX6_record_21 : decode cX6_record 21 = .ok (.iload_n 1, 1) := by decide +kernel
theorem dX6_record_22 : decode cX6_record 22 = .ok (.aload_n 0, 1) := by decide +kernel
theorem dX6_record_23 : decode cX6_record 23 = .ok (.getfield 13, 3) := by decide +kernel
theorem dX6_record_26 : decode cX6_record 26 = .ok (.iload_n 1, 1) := by decide +kernel
theorem dX6_record_27 : decode cX6_record 27 = .ok (.sipush 706, 3) := by decide +kernel
theorem dX6_record_30 : decode cX6_record 30 = .ok (.iadd, 1) := by decide +kernel
theorem dX6_record_31 : decode cX6_record 31 = .ok (.iaload, 1) := by decide +kernel
theorem dX6_record_32 : decode cX6_record 32 = .ok (.iastore, 1) := by decide +kernel
theorem dX6_record_33 : decode cX6_record 33 = .ok (.iinc 1 1, 3) := by decide +kernel
theorem dX6_record_36 : decode cX6_record 36 = .ok (.goto (-26), 3) := by decide +kernel
theorem dX6_record_39 : decode cX6_record 39 = .ok (.aload_n 0, 1) := by decide +kernel
theorem dX6_record_40 : decode cX6_record 40 = .ok (.dup, 1) := by decide +kernel
theorem dX6_record_41 : decode cX6_record 41 = .ok (.getfield 32, 3) := by decide +kernel
theorem dX6_record_44 : decode cX6_record 44 = .ok (.iconst 1, 1) := by decide +kernel
theorem dX6_record_45 : decode cX6_record 45 = .ok (.isub, 1) := by decide +kernel
theorem dX6_record_46 : decode cX6_record 46 = .ok (.putfield 32, 3) := by decide +kernel
theorem dX6_record_49 : decode cX6_record 49 = .ok (.iconst 0, 1) := by decide +kernel
theorem dX6_record_50 : decode cX6_record 50 = .ok (.istore_n 1, 1) := by decide +kernel
theorem dX6_record_51 : decode cX6_record 51 = .ok (.iload_n 1, 1) := by decide +kernel
theorem dX6_record_52 : decode cX6_record 52 = .ok (.sipush 706, 3) := by decide +kernel
theorem dX6_record_55 : decode cX6_record 55 = .ok (.if_icmp .ge 30, 3) := by decide +kernel
theorem dX6_record_58 : decode cX6_record 58 = .ok (.aload_n 0, 1) := by decide +kernel
theorem dX6_record_59 : decode cX6_record 59 = .ok (.getfield 13, 3) := by decide +kernel
theorem dX6_record_62 : decode cX6_record 62 = .ok (.aload_n 0, 1) := by decide +kernel
theorem dX6_record_63 : decode cX6_record 63 = .ok (.getfield 32, 3) := by decide +kernel
theorem dX6_record_66 : decode cX6_record 66 = .ok (.sipush 706, 3) := by decide +kernel
theorem dX6_record_69 : decode cX6_record 69 = .ok (.imul, 1) := by decide +kernel
theorem dX6_record_70 : decode cX6_record 70 = .ok (.iload_n 1, 1) := by decide +kernel
theorem dX6_record_71 : decode cX6_record 71 = .ok (.iadd, 1) := by decide +kernel
theorem dX6_record_72 : decode cX6_record 72 = .ok (.aload_n 0, 1) := by decide +kernel
theorem dX6_record_73 : decode cX6_record 73 = .ok (.getfield 7, 3) := by decide +kernel
theorem dX6_record_76 : decode cX6_record 76 = .ok (.iload_n 1, 1) := by decide +kernel
theorem dX6_record_77 : decode cX6_record 77 = .ok (.iaload, 1) := by decide +kernel
theorem dX6_record_78 : decode cX6_record 78 = .ok (.iastore, 1) := by decide +kernel
theorem dX6_record_79 : decode cX6_record 79 = .ok (.iinc 1 1, 3) := by decide +kernel
theorem dX6_record_82 : decode cX6_record 82 = .ok (.goto (-31), 3) := by decide +kernel
theorem dX6_record_85 : decode cX6_record 85 = .ok (.aload_n 0, 1) := by decide +kernel
theorem dX6_record_86 : decode cX6_record 86 = .ok (.dup, 1) := by decide +kernel
theorem dX6_record_87 : decode cX6_record 87 = .ok (.getfield 32, 3) := by decide +kernel
theorem dX6_record_90 : decode cX6_record 90 = .ok (.iconst 1, 1) := by decide +kernel
theorem dX6_record_91 : decode cX6_record 91 = .ok (.iadd, 1) := by decide +kernel
theorem dX6_record_92 : decode cX6_record 92 = .ok (.putfield 32, 3) := by decide +kernel
theorem dX6_record_95 : decode cX6_record 95 = .ok (.return_, 1) := by decide +kernel
theorem dX6_entries_0 : decode cX6_entries 0 = .ok (.iconst 0, 1) := by decide +kernel
theorem dX6_entries_1 : decode cX6_entries 1 = .ok (.istore_n 1, 1) := by decide +kernel
theorem dX6_entries_2 : decode cX6_entries 2 = .ok (.iconst 0, 1) := by decide +kernel
theorem dX6_entries_3 : decode cX6_entries 3 = .ok (.istore_n 2, 1) := by decide +kernel
theorem dX6_entries_4 : decode cX6_entries 4 = .ok (.iload_n 2, 1) := by decide +kernel
theorem dX6_entries_5 : decode cX6_entries 5 = .ok (.bipush 6, 2) := by decide +kernel
theorem dX6_entries_7 : decode cX6_entries 7 = .ok (.if_icmp .ge 22, 3) := by decide +kernel
theorem dX6_entries_10 : decode cX6_entries 10 = .ok (.iload_n 1, 1) := by decide +kernel
theorem dX6_entries_11 : decode cX6_entries 11 = .ok (.aload_n 0, 1) := by decide +kernel
theorem dX6_entries_12 : decode cX6_entries 12 = .ok (.getfield 7, 3) := by decide +kernel
theorem dX6_entries_15 : decode cX6_entries 15 = .ok (.sipush 480, 3) := by decide +kernel
theorem dX6_entries_18 : decode cX6_entries 18 = .ok (.iload_n 2, 1) := by decide +kernel
theorem dX6_entries_19 : decode cX6_entries 19 = .ok (.iadd, 1) := by decide +kernel
theorem dX6_entries_20 : decode cX6_entries 20 = .ok (.iaload, 1) := by decide +kernel
theorem dX6_entries_21 : decode cX6_entries 21 = .ok (.iadd, 1) := by decide +kernel
theorem dX6_entries_22 : decode cX6_entries 22 = .ok (.istore_n 1, 1) := by decide +kernel
theorem dX6_entries_23 : decode cX6_entries 23 = .ok (.iinc 2 1, 3) := by decide +kernel
theorem dX6_entries_26 : decode cX6_entries 26 = .ok (.goto (-22), 3) := by decide +kernel
theorem dX6_entries_29 : decode cX6_entries 29 = .ok (.iload_n 1, 1) := by decide +kernel
theorem dX6_entries_30 : decode cX6_entries 30 = .ok (.ireturn, 1) := by decide +kernel
theorem dX6_undo_0 : decode cX6_undo 0 = .ok (.aload_n 0, 1) := by decide +kernel
theorem dX6_undo_1 : decode cX6_undo 1 = .ok (.getfield 32, 3) := by decide +kernel
theorem dX6_undo_4 : decode cX6_undo 4 = .ok (.ifCond .ne 6, 3) := by decide +kernel
theorem dX6_undo_7 : decode cX6_undo 7 = .ok (.bipush (-5), 2) := by decide +kernel
theorem dX6_undo_9 : decode cX6_undo 9 = .ok (.ireturn, 1) := by decide +kernel
theorem dX6_undo_10 : decode cX6_undo 10 = .ok (.aload_n 0, 1) := by decide +kernel
theorem dX6_undo_11 : decode cX6_undo 11 = .ok (.dup, 1) := by decide +kernel
theorem dX6_undo_12 : decode cX6_undo 12 = .ok (.getfield 32, 3) := by decide +kernel
theorem dX6_undo_15 : decode cX6_undo 15 = .ok (.iconst 1, 1) := by decide +kernel
theorem dX6_undo_16 : decode cX6_undo 16 = .ok (.isub, 1) := by decide +kernel
theorem dX6_undo_17 : decode cX6_undo 17 = .ok (.putfield 32, 3) := by decide +kernel
theorem dX6_undo_20 : decode cX6_undo 20 = .ok (.iconst 0, 1) := by decide +kernel
theorem dX6_undo_21 : decode cX6_undo 21 = .ok (.istore_n 1, 1) := by decide +kernel
theorem dX6_undo_22 : decode cX6_undo 22 = .ok (.iload_n 1, 1) := by decide +kernel
theorem dX6_undo_23 : decode cX6_undo 23 = .ok (.sipush 706, 3) := by decide +kernel
theorem dX6_undo_26 : decode cX6_undo 26 = .ok (.if_icmp .ge 30, 3) := by decide +kernel
theorem dX6_undo_29 : decode cX6_undo 29 = .ok (.aload_n 0, 1) := by decide +kernel
theorem dX6_undo_30 : decode cX6_undo 30 = .ok (.getfield 7, 3) := by decide +kernel
theorem dX6_undo_33 : decode cX6_undo 33 = .ok (.iload_n 1, 1) := by decide +kernel
theorem dX6_undo_34 : decode cX6_undo 34 = .ok (.aload_n 0, 1) := by decide +kernel
theorem dX6_undo_35 : decode cX6_undo 35 = .ok (.getfield 13, 3) := by decide +kernel
theorem dX6_undo_38 : decode cX6_undo 38 = .ok (.aload_n 0, 1) := by decide +kernel
theorem dX6_undo_39 : decode cX6_undo 39 = .ok (.getfield 32, 3) := by decide +kernel
theorem dX6_undo_42 : decode cX6_undo 42 = .ok (.sipush 706, 3) := by decide +kernel
theorem dX6_undo_45 : decode cX6_undo 45 = .ok (.imul, 1) := by decide +kernel
theorem dX6_undo_46 : decode cX6_undo 46 = .ok (.iload_n 1, 1) := by decide +kernel
theorem dX6_undo_47 : decode cX6_undo 47 = .ok (.iadd, 1) := by decide +kernel
theorem dX6_undo_48 : decode cX6_undo 48 = .ok (.iaload, 1) := by decide +kernel
theorem dX6_undo_49 : decode cX6_undo 49 = .ok (.iastore, 1) := by decide +kernel
theorem dX6_undo_50 : decode cX6_undo 50 = .ok (.iinc 1 1, 3) := by decide +kernel
theorem dX6_undo_53 : decode cX6_undo 53 = .ok (.goto (-31), 3) := by decide +kernel
theorem dX6_undo_56 : decode cX6_undo 56 = .ok (.aload_n 0, 1) := by decide +kernel
theorem dX6_undo_57 : decode cX6_undo 57 = .ok (.getfield 32, 3) := by decide +kernel
theorem dX6_undo_60 : decode cX6_undo 60 = .ok (.ireturn, 1) := by decide +kernel
theorem dX6_keep_0 : decode cX6_keep 0 = .ok (.aload_n 0, 1) := by decide +kernel
theorem dX6_keep_1 : decode cX6_keep 1 = .ok (.iconst 1, 1) := by decide +kernel
theorem dX6_keep_2 : decode cX6_keep 2 = .ok (.putfield 36, 3) := by decide +kernel
theorem dX6_keep_5 : decode cX6_keep 5 = .ok (.iconst 0, 1) := by decide +kernel
theorem dX6_keep_6 : decode cX6_keep 6 = .ok (.istore_n 1, 1) := by decide +kernel
theorem dX6_keep_7 : decode cX6_keep 7 = .ok (.iload_n 1, 1) := by decide +kernel
theorem dX6_keep_8 : decode cX6_keep 8 = .ok (.sipush 706, 3) := by decide +kernel
theorem dX6_keep_11 : decode cX6_keep 11 = .ok (.if_icmp .ge 21, 3) := by decide +kernel
theorem dX6_keep_14 : decode cX6_keep 14 = .ok (.aload_n 0, 1) := by decide +kernel
theorem dX6_keep_15 : decode cX6_keep 15 = .ok (.getfield 16, 3) := by decide +kernel
theorem dX6_keep_18 : decode cX6_keep 18 = .ok (.iload_n 1, 1) := by decide +kernel
theorem dX6_keep_19 : decode cX6_keep 19 = .ok (.aload_n 0, 1) := by decide +kernel
theorem dX6_keep_20 : decode cX6_keep 20 = .ok (.getfield 7, 3) := by decide +kernel
theorem dX6_keep_23 : decode cX6_keep 23 = .ok (.iload_n 1, 1) := by decide +kernel
theorem dX6_keep_24 : decode cX6_keep 24 = .ok (.iaload, 1) := by decide +kernel
theorem dX6_keep_25 : decode cX6_keep 25 = .ok (.iastore, 1) := by decide +kernel
theorem dX6_keep_26 : decode cX6_keep 26 = .ok (.iinc 1 1, 3) := by decide +kernel
theorem dX6_keep_29 : decode cX6_keep 29 = .ok (.goto (-22), 3) := by decide +kernel
theorem dX6_keep_32 : decode cX6_keep 32 = .ok (.aload_n 0, 1) := by decide +kernel
theorem dX6_keep_33 : decode cX6_keep 33 = .ok (.invokevirtual 40, 3) := by decide +kernel
theorem dX6_keep_36 : decode cX6_keep 36 = .ok (.ireturn, 1) := by decide +kernel
theorem dX6_restore_0 : decode cX6_restore 0 = .ok (.aload_n 0, 1) := by decide +kernel
theorem dX6_restore_1 : decode cX6_restore 1 = .ok (.getfield 36, 3) := by decide +kernel
theorem dX6_restore_4 : decode cX6_restore 4 = .ok (.ifCond .ne 6, 3) := by decide +kernel
theorem dX6_restore_7 : decode cX6_restore 7 = .ok (.bipush (-5), 2) := by decide +kernel
theorem dX6_restore_9 : decode cX6_restore 9 = .ok (.ireturn, 1) := by decide +kernel
theorem dX6_restore_10 : decode cX6_restore 10 = .ok (.aload_n 0, 1) := by decide +kernel
theorem dX6_restore_11 : decode cX6_restore 11 = .ok (.invokevirtual 44, 3) := by decide +kernel
theorem dX6_restore_14 : decode cX6_restore 14 = .ok (.iconst 0, 1) := by decide +kernel
theorem dX6_restore_15 : decode cX6_restore 15 = .ok (.istore_n 1, 1) := by decide +kernel
theorem dX6_restore_16 : decode cX6_restore 16 = .ok (.iload_n 1, 1) := by decide +kernel
theorem dX6_restore_17 : decode cX6_restore 17 = .ok (.sipush 706, 3) := by decide +kernel
theorem dX6_restore_20 : decode cX6_restore 20 = .ok (.if_icmp .ge 21, 3) := by decide +kernel
theorem dX6_restore_23 : decode cX6_restore 23 = .ok (.aload_n 0, 1) := by decide +kernel
theorem dX6_restore_24 : decode cX6_restore 24 = .ok (.getfield 7, 3) := by decide +kernel
theorem dX6_restore_27 : decode cX6_restore 27 = .ok (.iload_n 1, 1) := by decide +kernel
theorem dX6_restore_28 : decode cX6_restore 28 = .ok (.aload_n 0, 1) := by decide +kernel
theorem dX6_restore_29 : decode cX6_restore 29 = .ok (.getfield 16, 3) := by decide +kernel
theorem dX6_restore_32 : decode cX6_restore 32 = .ok (.iload_n 1, 1) := by decide +kernel
theorem dX6_restore_33 : decode cX6_restore 33 = .ok (.iaload, 1) := by decide +kernel
theorem dX6_restore_34 : decode cX6_restore 34 = .ok (.iastore, 1) := by decide +kernel
theorem dX6_restore_35 : decode cX6_restore 35 = .ok (.iinc 1 1, 3) := by decide +kernel
theorem dX6_restore_38 : decode cX6_restore 38 = .ok (.goto (-22), 3) := by decide +kernel
theorem dX6_restore_41 : decode cX6_restore 41 = .ok (.aload_n 0, 1) := by decide +kernel
theorem dX6_restore_42 : decode cX6_restore 42 = .ok (.invokevirtual 40, 3) := by decide +kernel
theorem dX6_restore_45 : decode cX6_restore 45 = .ok (.ireturn, 1) := by decide +kernel
theorem dX6_isList_0 : decode cX6_isList 0 = .ok (.iload_n 0, 1) := by decide +kernel
theorem dX6_isList_1 : decode cX6_isList 1 = .ok (.ifCond .lt 13, 3) := by decide +kernel
theorem dX6_isList_4 : decode cX6_isList 4 = .ok (.iload_n 0, 1) := by decide +kernel
theorem dX6_isList_5 : decode cX6_isList 5 = .ok (.bipush 6, 2) := by decide +kernel
theorem dX6_isList_7 : decode cX6_isList 7 = .ok (.if_icmp .ge 7, 3) := by decide +kernel
theorem dX6_isList_10 : decode cX6_isList 10 = .ok (.iconst 1, 1) := by decide +kernel
theorem dX6_isList_11 : decode cX6_isList 11 = .ok (.goto 4, 3) := by decide +kernel
theorem dX6_isList_14 : decode cX6_isList 14 = .ok (.iconst 0, 1) := by decide +kernel
theorem dX6_isList_15 : decode cX6_isList 15 = .ok (.ireturn, 1) := by decide +kernel
theorem dX6_isDocument_0 : decode cX6_isDocument 0 = .ok (.iload_n 0, 1) := by decide +kernel
theorem dX6_isDocument_1 : decode cX6_isDocument 1 = .ok (.ifCond .lt 13, 3) := by decide +kernel
theorem dX6_isDocument_4 : decode cX6_isDocument 4 = .ok (.iload_n 0, 1) := by decide +kernel
theorem dX6_isDocument_5 : decode cX6_isDocument 5 = .ok (.bipush 60, 2) := by decide +kernel
theorem dX6_isDocument_7 : decode cX6_isDocument 7 = .ok (.if_icmp .ge 7, 3) := by decide +kernel
theorem dX6_isDocument_10 : decode cX6_isDocument 10 = .ok (.iconst 1, 1) := by decide +kernel
theorem dX6_isDocument_11 : decode cX6_isDocument 11 = .ok (.goto 4, 3) := by decide +kernel
theorem dX6_isDocument_14 : decode cX6_isDocument 14 = .ok (.iconst 0, 1) := by decide +kernel
theorem dX6_isDocument_15 : decode cX6_isDocument 15 = .ok (.ireturn, 1) := by decide +kernel
theorem dX6_placeOf_0 : decode cX6_placeOf 0 = .ok (.iconst (-1), 1) := by decide +kernel
theorem dX6_placeOf_1 : decode cX6_placeOf 1 = .ok (.istore_n 3, 1) := by decide +kernel
theorem dX6_placeOf_2 : decode cX6_placeOf 2 = .ok (.iconst 0, 1) := by decide +kernel
theorem dX6_placeOf_3 : decode cX6_placeOf 3 = .ok (.istore 4, 2) := by decide +kernel
theorem dX6_placeOf_5 : decode cX6_placeOf 5 = .ok (.iload 4, 2) := by decide +kernel
theorem dX6_placeOf_7 : decode cX6_placeOf 7 = .ok (.aload_n 0, 1) := by decide +kernel
theorem dX6_placeOf_8 : decode cX6_placeOf 8 = .ok (.getfield 7, 3) := by decide +kernel
theorem dX6_placeOf_11 : decode cX6_placeOf 11 = .ok (.sipush 480, 3) := by decide +kernel
theorem dX6_placeOf_14 : decode cX6_placeOf 14 = .ok (.iload_n 1, 1) := by decide +kernel
theorem dX6_placeOf_15 : decode cX6_placeOf 15 = .ok (.iadd, 1) := by decide +kernel
theorem dX6_placeOf_16 : decode cX6_placeOf 16 = .ok (.iaload, 1) := by decide +kernel
theorem dX6_placeOf_17 : decode cX6_placeOf 17 = .ok (.if_icmp .ge 34, 3) := by decide +kernel
theorem dX6_placeOf_20 : decode cX6_placeOf 20 = .ok (.aload_n 0, 1) := by decide +kernel
theorem dX6_placeOf_21 : decode cX6_placeOf 21 = .ok (.getfield 7, 3) := by decide +kernel
theorem dX6_placeOf_24 : decode cX6_placeOf 24 = .ok (.iconst 0, 1) := by decide +kernel
theorem dX6_placeOf_25 : decode cX6_placeOf 25 = .ok (.bipush 40, 2) := by decide +kernel
theorem dX6_placeOf_27 : decode cX6_placeOf 27 = .ok (.iload_n 1, 1) := by decide +kernel
theorem dX6_placeOf_28 : decode cX6_placeOf 28 = .ok (.imul, 1) := by decide +kernel
theorem dX6_placeOf_29 : decode cX6_placeOf 29 = .ok (.iadd, 1) := by decide +kernel
theorem dX6_placeOf_30 : decode cX6_placeOf 30 = .ok (.iload 4, 2) := by decide +kernel
theorem dX6_placeOf_32 : decode cX6_placeOf 32 = .ok (.iadd, 1) := by decide +kernel
theorem dX6_placeOf_33 : decode cX6_placeOf 33 = .ok (.iaload, 1) := by decide +kernel
theorem dX6_placeOf_34 : decode cX6_placeOf 34 = .ok (.iload_n 2, 1) := by decide +kernel
theorem dX6_placeOf_35 : decode cX6_placeOf 35 = .ok (.if_icmp .ne 8, 3) := by decide +kernel
theorem dX6_placeOf_38 : decode cX6_placeOf 38 = .ok (.iload 4, 2) := by decide +kernel
theorem dX6_placeOf_40 : decode cX6_placeOf 40 = .ok (.goto 4, 3) := by decide +kernel
theorem dX6_placeOf_43 : decode cX6_placeOf 43 = .ok (.iload_n 3, 1) := by decide +kernel
theorem dX6_placeOf_44 : decode cX6_placeOf 44 = .ok (.istore_n 3, 1) := by decide +kernel
theorem dX6_placeOf_45 : decode cX6_placeOf 45 = .ok (.iinc 4 1, 3) := by decide +kernel
theorem dX6_placeOf_48 : decode cX6_placeOf 48 = .ok (.goto (-43), 3) := by decide +kernel
theorem dX6_placeOf_51 : decode cX6_placeOf 51 = .ok (.iload_n 3, 1) := by decide +kernel
theorem dX6_placeOf_52 : decode cX6_placeOf 52 = .ok (.ireturn, 1) := by decide +kernel
theorem dX6_scoreOf_0 : decode cX6_scoreOf 0 = .ok (.aload_n 0, 1) := by decide +kernel
theorem dX6_scoreOf_1 : decode cX6_scoreOf 1 = .ok (.iload_n 1, 1) := by decide +kernel
theorem dX6_scoreOf_2 : decode cX6_scoreOf 2 = .ok (.iload_n 2, 1) := by decide +kernel
theorem dX6_scoreOf_3 : decode cX6_scoreOf 3 = .ok (.invokevirtual 47, 3) := by decide +kernel
theorem dX6_scoreOf_6 : decode cX6_scoreOf 6 = .ok (.istore_n 3, 1) := by decide +kernel
theorem dX6_scoreOf_7 : decode cX6_scoreOf 7 = .ok (.iload_n 3, 1) := by decide +kernel
theorem dX6_scoreOf_8 : decode cX6_scoreOf 8 = .ok (.ifCond .ge 7, 3) := by decide +kernel
theorem dX6_scoreOf_11 : decode cX6_scoreOf 11 = .ok (.iconst 0, 1) := by decide +kernel
theorem dX6_scoreOf_12 : decode cX6_scoreOf 12 = .ok (.goto 18, 3) := by decide +kernel
theorem dX6_scoreOf_15 : decode cX6_scoreOf 15 = .ok (.aload_n 0, 1) := by decide +kernel
theorem dX6_scoreOf_16 : decode cX6_scoreOf 16 = .ok (.getfield 7, 3) := by decide +kernel
theorem dX6_scoreOf_19 : decode cX6_scoreOf 19 = .ok (.sipush 240, 3) := by decide +kernel
theorem dX6_scoreOf_22 : decode cX6_scoreOf 22 = .ok (.bipush 40, 2) := by decide +kernel
theorem dX6_scoreOf_24 : decode cX6_scoreOf 24 = .ok (.iload_n 1, 1) := by decide +kernel
theorem dX6_scoreOf_25 : decode cX6_scoreOf 25 = .ok (.imul, 1) := by decide +kernel
theorem dX6_scoreOf_26 : decode cX6_scoreOf 26 = .ok (.iadd, 1) := by decide +kernel
theorem dX6_scoreOf_27 : decode cX6_scoreOf 27 = .ok (.iload_n 3, 1) := by decide +kernel
theorem dX6_scoreOf_28 : decode cX6_scoreOf 28 = .ok (.iadd, 1) := by decide +kernel
theorem dX6_scoreOf_29 : decode cX6_scoreOf 29 = .ok (.iaload, 1) := by decide +kernel
theorem dX6_scoreOf_30 : decode cX6_scoreOf 30 = .ok (.ireturn, 1) := by decide +kernel
theorem dX6_takeOut_0 : decode cX6_takeOut 0 = .ok (.aload_n 0, 1) := by decide +kernel
theorem dX6_takeOut_1 : decode cX6_takeOut 1 = .ok (.getfield 7, 3) := by decide +kernel
theorem dX6_takeOut_4 : decode cX6_takeOut 4 = .ok (.sipush 480, 3) := by decide +kernel
theorem dX6_takeOut_7 : decode cX6_takeOut 7 = .ok (.iload_n 1, 1) := by decide +kernel
theorem dX6_takeOut_8 : decode cX6_takeOut 8 = .ok (.iadd, 1) := by decide +kernel
theorem dX6_takeOut_9 : decode cX6_takeOut 9 = .ok (.dup2, 1) := by decide +kernel
theorem dX6_takeOut_10 : decode cX6_takeOut 10 = .ok (.iaload, 1) := by decide +kernel
theorem dX6_takeOut_11 : decode cX6_takeOut 11 = .ok (.iconst 1, 1) := by decide +kernel
theorem dX6_takeOut_12 : decode cX6_takeOut 12 = .ok (.isub, 1) := by decide +kernel
theorem dX6_takeOut_13 : decode cX6_takeOut 13 = .ok (.iastore, 1) := by decide +kernel
theorem dX6_takeOut_14 : decode cX6_takeOut 14 = .ok (.iload_n 2, 1) := by decide +kernel
theorem dX6_takeOut_15 : decode cX6_takeOut 15 = .ok (.istore_n 3, 1) := by decide +kernel
theorem dX6_takeOut_16 : decode cX6_takeOut 16 = .ok (.iload_n 3, 1) := by decide +kernel
theorem dX6_takeOut_17 : decode cX6_takeOut 17 = .ok (.aload_n 0, 1) := by decide +kernel
theorem dX6_takeOut_18 : decode cX6_takeOut 18 = .ok (.getfield 7, 3) := by decide +kernel
theorem dX6_takeOut_21 : decode cX6_takeOut 21 = .ok (.sipush 480, 3) := by decide +kernel
theorem dX6_takeOut_24 : decode cX6_takeOut 24 = .ok (.iload_n 1, 1) := by decide +kernel
theorem dX6_takeOut_25 : decode cX6_takeOut 25 = .ok (.iadd, 1) := by decide +kernel
theorem dX6_takeOut_26 : decode cX6_takeOut 26 = .ok (.iaload, 1) := by decide +kernel
theorem dX6_takeOut_27 : decode cX6_takeOut 27 = .ok (.if_icmp .ge 69, 3) := by decide +kernel
theorem dX6_takeOut_30 : decode cX6_takeOut 30 = .ok (.aload_n 0, 1) := by decide +kernel
theorem dX6_takeOut_31 : decode cX6_takeOut 31 = .ok (.getfield 7, 3) := by decide +kernel
theorem dX6_takeOut_34 : decode cX6_takeOut 34 = .ok (.iconst 0, 1) := by decide +kernel
theorem dX6_takeOut_35 : decode cX6_takeOut 35 = .ok (.bipush 40, 2) := by decide +kernel
theorem dX6_takeOut_37 : decode cX6_takeOut 37 = .ok (.iload_n 1, 1) := by decide +kernel
theorem dX6_takeOut_38 : decode cX6_takeOut 38 = .ok (.imul, 1) := by decide +kernel
theorem dX6_takeOut_39 : decode cX6_takeOut 39 = .ok (.iadd, 1) := by decide +kernel
theorem dX6_takeOut_40 : decode cX6_takeOut 40 = .ok (.iload_n 3, 1) := by decide +kernel
theorem dX6_takeOut_41 : decode cX6_takeOut 41 = .ok (.iadd, 1) := by decide +kernel
theorem dX6_takeOut_42 : decode cX6_takeOut 42 = .ok (.aload_n 0, 1) := by decide +kernel
theorem dX6_takeOut_43 : decode cX6_takeOut 43 = .ok (.getfield 7, 3) := by decide +kernel
theorem dX6_takeOut_46 : decode cX6_takeOut 46 = .ok (.iconst 0, 1) := by decide +kernel
theorem dX6_takeOut_47 : decode cX6_takeOut 47 = .ok (.bipush 40, 2) := by decide +kernel
theorem dX6_takeOut_49 : decode cX6_takeOut 49 = .ok (.iload_n 1, 1) := by decide +kernel
theorem dX6_takeOut_50 : decode cX6_takeOut 50 = .ok (.imul, 1) := by decide +kernel
theorem dX6_takeOut_51 : decode cX6_takeOut 51 = .ok (.iadd, 1) := by decide +kernel
theorem dX6_takeOut_52 : decode cX6_takeOut 52 = .ok (.iload_n 3, 1) := by decide +kernel
theorem dX6_takeOut_53 : decode cX6_takeOut 53 = .ok (.iadd, 1) := by decide +kernel
theorem dX6_takeOut_54 : decode cX6_takeOut 54 = .ok (.iconst 1, 1) := by decide +kernel
theorem dX6_takeOut_55 : decode cX6_takeOut 55 = .ok (.iadd, 1) := by decide +kernel
theorem dX6_takeOut_56 : decode cX6_takeOut 56 = .ok (.iaload, 1) := by decide +kernel
theorem dX6_takeOut_57 : decode cX6_takeOut 57 = .ok (.iastore, 1) := by decide +kernel
theorem dX6_takeOut_58 : decode cX6_takeOut 58 = .ok (.aload_n 0, 1) := by decide +kernel
theorem dX6_takeOut_59 : decode cX6_takeOut 59 = .ok (.getfield 7, 3) := by decide +kernel
theorem dX6_takeOut_62 : decode cX6_takeOut 62 = .ok (.sipush 240, 3) := by decide +kernel
theorem dX6_takeOut_65 : decode cX6_takeOut 65 = .ok (.bipush 40, 2) := by decide +kernel
theorem dX6_takeOut_67 : decode cX6_takeOut 67 = .ok (.iload_n 1, 1) := by decide +kernel
theorem dX6_takeOut_68 : decode cX6_takeOut 68 = .ok (.imul, 1) := by decide +kernel
theorem dX6_takeOut_69 : decode cX6_takeOut 69 = .ok (.iadd, 1) := by decide +kernel
theorem dX6_takeOut_70 : decode cX6_takeOut 70 = .ok (.iload_n 3, 1) := by decide +kernel
theorem dX6_takeOut_71 : decode cX6_takeOut 71 = .ok (.iadd, 1) := by decide +kernel
theorem dX6_takeOut_72 : decode cX6_takeOut 72 = .ok (.aload_n 0, 1) := by decide +kernel
theorem dX6_takeOut_73 : decode cX6_takeOut 73 = .ok (.getfield 7, 3) := by decide +kernel
theorem dX6_takeOut_76 : decode cX6_takeOut 76 = .ok (.sipush 240, 3) := by decide +kernel
theorem dX6_takeOut_79 : decode cX6_takeOut 79 = .ok (.bipush 40, 2) := by decide +kernel
theorem dX6_takeOut_81 : decode cX6_takeOut 81 = .ok (.iload_n 1, 1) := by decide +kernel
theorem dX6_takeOut_82 : decode cX6_takeOut 82 = .ok (.imul, 1) := by decide +kernel
theorem dX6_takeOut_83 : decode cX6_takeOut 83 = .ok (.iadd, 1) := by decide +kernel
theorem dX6_takeOut_84 : decode cX6_takeOut 84 = .ok (.iload_n 3, 1) := by decide +kernel
theorem dX6_takeOut_85 : decode cX6_takeOut 85 = .ok (.iadd, 1) := by decide +kernel
theorem dX6_takeOut_86 : decode cX6_takeOut 86 = .ok (.iconst 1, 1) := by decide +kernel
theorem dX6_takeOut_87 : decode cX6_takeOut 87 = .ok (.iadd, 1) := by decide +kernel
theorem dX6_takeOut_88 : decode cX6_takeOut 88 = .ok (.iaload, 1) := by decide +kernel
theorem dX6_takeOut_89 : decode cX6_takeOut 89 = .ok (.iastore, 1) := by decide +kernel
theorem dX6_takeOut_90 : decode cX6_takeOut 90 = .ok (.iinc 3 1, 3) := by decide +kernel
theorem dX6_takeOut_93 : decode cX6_takeOut 93 = .ok (.goto (-77), 3) := by decide +kernel
theorem dX6_takeOut_96 : decode cX6_takeOut 96 = .ok (.aload_n 0, 1) := by decide +kernel
theorem dX6_takeOut_97 : decode cX6_takeOut 97 = .ok (.getfield 7, 3) := by decide +kernel
theorem dX6_takeOut_100 : decode cX6_takeOut 100 = .ok (.iconst 0, 1) := by decide +kernel
theorem dX6_takeOut_101 : decode cX6_takeOut 101 = .ok (.bipush 40, 2) := by decide +kernel
theorem dX6_takeOut_103 : decode cX6_takeOut 103 = .ok (.iload_n 1, 1) := by decide +kernel
theorem dX6_takeOut_104 : decode cX6_takeOut 104 = .ok (.imul, 1) := by decide +kernel
theorem dX6_takeOut_105 : decode cX6_takeOut 105 = .ok (.iadd, 1) := by decide +kernel
theorem dX6_takeOut_106 : decode cX6_takeOut 106 = .ok (.aload_n 0, 1) := by decide +kernel
theorem dX6_takeOut_107 : decode cX6_takeOut 107 = .ok (.getfield 7, 3) := by decide +kernel
theorem dX6_takeOut_110 : decode cX6_takeOut 110 = .ok (.sipush 480, 3) := by decide +kernel
theorem dX6_takeOut_113 : decode cX6_takeOut 113 = .ok (.iload_n 1, 1) := by decide +kernel
theorem dX6_takeOut_114 : decode cX6_takeOut 114 = .ok (.iadd, 1) := by decide +kernel
theorem dX6_takeOut_115 : decode cX6_takeOut 115 = .ok (.iaload, 1) := by decide +kernel
theorem dX6_takeOut_116 : decode cX6_takeOut 116 = .ok (.iadd, 1) := by decide +kernel
theorem dX6_takeOut_117 : decode cX6_takeOut 117 = .ok (.iconst 0, 1) := by decide +kernel
theorem dX6_takeOut_118 : decode cX6_takeOut 118 = .ok (.iastore, 1) := by decide +kernel
theorem dX6_takeOut_119 : decode cX6_takeOut 119 = .ok (.aload_n 0, 1) := by decide +kernel
theorem dX6_takeOut_120 : decode cX6_takeOut 120 = .ok (.getfield 7, 3) := by decide +kernel
theorem dX6_takeOut_123 : decode cX6_takeOut 123 = .ok (.sipush 240, 3) := by decide +kernel
theorem dX6_takeOut_126 : decode cX6_takeOut 126 = .ok (.bipush 40, 2) := by decide +kernel
theorem dX6_takeOut_128 : decode cX6_takeOut 128 = .ok (.iload_n 1, 1) := by decide +kernel
theorem dX6_takeOut_129 : decode cX6_takeOut 129 = .ok (.imul, 1) := by decide +kernel
theorem dX6_takeOut_130 : decode cX6_takeOut 130 = .ok (.iadd, 1) := by decide +kernel
theorem dX6_takeOut_131 : decode cX6_takeOut 131 = .ok (.aload_n 0, 1) := by decide +kernel
theorem dX6_takeOut_132 : decode cX6_takeOut 132 = .ok (.getfield 7, 3) := by decide +kernel
theorem dX6_takeOut_135 : decode cX6_takeOut 135 = .ok (.sipush 480, 3) := by decide +kernel
theorem dX6_takeOut_138 : decode cX6_takeOut 138 = .ok (.iload_n 1, 1) := by decide +kernel
theorem dX6_takeOut_139 : decode cX6_takeOut 139 = .ok (.iadd, 1) := by decide +kernel
theorem dX6_takeOut_140 : decode cX6_takeOut 140 = .ok (.iaload, 1) := by decide +kernel
theorem dX6_takeOut_141 : decode cX6_takeOut 141 = .ok (.iadd, 1) := by decide +kernel
theorem dX6_takeOut_142 : decode cX6_takeOut 142 = .ok (.iconst 0, 1) := by decide +kernel
theorem dX6_takeOut_143 : decode cX6_takeOut 143 = .ok (.iastore, 1) := by decide +kernel
theorem dX6_takeOut_144 : decode cX6_takeOut 144 = .ok (.return_, 1) := by decide +kernel
theorem dX6_putIn_0 : decode cX6_putIn 0 = .ok (.iconst 0, 1) := by decide +kernel
theorem dX6_putIn_1 : decode cX6_putIn 1 = .ok (.istore 4, 2) := by decide +kernel
theorem dX6_putIn_3 : decode cX6_putIn 3 = .ok (.iconst 0, 1) := by decide +kernel
theorem dX6_putIn_4 : decode cX6_putIn 4 = .ok (.istore 5, 2) := by decide +kernel
theorem dX6_putIn_6 : decode cX6_putIn 6 = .ok (.iload 5, 2) := by decide +kernel
theorem dX6_putIn_8 : decode cX6_putIn 8 = .ok (.aload_n 0, 1) := by decide +kernel
theorem dX6_putIn_9 : decode cX6_putIn 9 = .ok (.getfield 7, 3) := by decide +kernel
theorem dX6_putIn_12 : decode cX6_putIn 12 = .ok (.sipush 480, 3) := by decide +kernel
theorem dX6_putIn_15 : decode cX6_putIn 15 = .ok (.iload_n 1, 1) := by decide +kernel
theorem dX6_putIn_16 : decode cX6_putIn 16 = .ok (.iadd, 1) := by decide +kernel
theorem dX6_putIn_17 : decode cX6_putIn 17 = .ok (.iaload, 1) := by decide +kernel
theorem dX6_putIn_18 : decode cX6_putIn 18 = .ok (.if_icmp .ge 79, 3) := by decide +kernel
theorem dX6_putIn_21 : decode cX6_putIn 21 = .ok (.aload_n 0, 1) := by decide +kernel
theorem dX6_putIn_22 : decode cX6_putIn 22 = .ok (.getfield 7, 3) := by decide +kernel
theorem dX6_putIn_25 : decode cX6_putIn 25 = .ok (.sipush 240, 3) := by decide +kernel
theorem dX6_putIn_28 : decode cX6_putIn 28 = .ok (.bipush 40, 2) := by decide +kernel
theorem dX6_putIn_30 : decode cX6_putIn 30 = .ok (.iload_n 1, 1) := by decide +kernel
theorem dX6_putIn_31 : decode cX6_putIn 31 = .ok (.imul, 1) := by decide +kernel
theorem dX6_putIn_32 : decode cX6_putIn 32 = .ok (.iadd, 1) := by decide +kernel
theorem dX6_putIn_33 : decode cX6_putIn 33 = .ok (.iload 5, 2) := by decide +kernel
theorem dX6_putIn_35 : decode cX6_putIn 35 = .ok (.iadd, 1) := by decide +kernel
theorem dX6_putIn_36 : decode cX6_putIn 36 = .ok (.iaload, 1) := by decide +kernel
theorem dX6_putIn_37 : decode cX6_putIn 37 = .ok (.istore 6, 2) := by decide +kernel
theorem dX6_putIn_39 : decode cX6_putIn 39 = .ok (.iload 6, 2) := by decide +kernel
theorem dX6_putIn_41 : decode cX6_putIn 41 = .ok (.iload_n 3, 1) := by decide +kernel
theorem dX6_putIn_42 : decode cX6_putIn 42 = .ok (.if_icmp .gt 27, 3) := by decide +kernel
theorem dX6_putIn_45 : decode cX6_putIn 45 = .ok (.iload 6, 2) := by decide +kernel
theorem dX6_putIn_47 : decode cX6_putIn 47 = .ok (.iload_n 3, 1) := by decide +kernel
theorem dX6_putIn_48 : decode cX6_putIn 48 = .ok (.if_icmp .ne 25, 3) := by decide +kernel
theorem dX6_putIn_51 : decode cX6_putIn 51 = .ok (.aload_n 0, 1) := by decide +kernel
theorem dX6_putIn_52 : decode cX6_putIn 52 = .ok (.getfield 7, 3) := by decide +kernel
theorem dX6_putIn_55 : decode cX6_putIn 55 = .ok (.iconst 0, 1) := by decide +kernel
theorem dX6_putIn_56 : decode cX6_putIn 56 = .ok (.bipush 40, 2) := by decide +kernel
theorem dX6_putIn_58 : decode cX6_putIn 58 = .ok (.iload_n 1, 1) := by decide +kernel
theorem dX6_putIn_59 : decode cX6_putIn 59 = .ok (.imul, 1) := by decide +kernel
theorem dX6_putIn_60 : decode cX6_putIn 60 = .ok (.iadd, 1) := by decide +kernel
theorem dX6_putIn_61 : decode cX6_putIn 61 = .ok (.iload 5, 2) := by decide +kernel
theorem dX6_putIn_63 : decode cX6_putIn 63 = .ok (.iadd, 1) := by decide +kernel
theorem dX6_putIn_64 : decode cX6_putIn 64 = .ok (.iaload, 1) := by decide +kernel
theorem dX6_putIn_65 : decode cX6_putIn 65 = .ok (.iload_n 2, 1) := by decide +kernel
theorem dX6_putIn_66 : decode cX6_putIn 66 = .ok (.if_icmp .ge 7, 3) := by decide +kernel
theorem dX6_putIn_69 : decode cX6_putIn 69 = .ok (.iconst 1, 1) := by decide +kernel
theorem dX6_putIn_70 : decode cX6_putIn 70 = .ok (.goto 4, 3) := by decide +kernel
theorem dX6_putIn_73 : decode cX6_putIn 73 = .ok (.iconst 0, 1) := by decide +kernel
theorem dX6_putIn_74 : decode cX6_putIn 74 = .ok (.istore 7, 2) := by decide +kernel
theorem dX6_putIn_76 : decode cX6_putIn 76 = .ok (.iload 4, 2) := by decide +kernel
theorem dX6_putIn_78 : decode cX6_putIn 78 = .ok (.iload 7, 2) := by decide +kernel
theorem dX6_putIn_80 : decode cX6_putIn 80 = .ok (.ifCond .eq 7, 3) := by decide +kernel
theorem dX6_putIn_83 : decode cX6_putIn 83 = .ok (.iconst 1, 1) := by decide +kernel
theorem dX6_putIn_84 : decode cX6_putIn 84 = .ok (.goto 4, 3) := by decide +kernel
theorem dX6_putIn_87 : decode cX6_putIn 87 = .ok (.iconst 0, 1) := by decide +kernel
theorem dX6_putIn_88 : decode cX6_putIn 88 = .ok (.iadd, 1) := by decide +kernel
theorem dX6_putIn_89 : decode cX6_putIn 89 = .ok (.istore 4, 2) := by decide +kernel
theorem dX6_putIn_91 : decode cX6_putIn 91 = .ok (.iinc 5 1, 3) := by decide +kernel
theorem dX6_putIn_94 : decode cX6_putIn 94 = .ok (.goto (-88), 3) := by decide +kernel
theorem dX6_putIn_97 : decode cX6_putIn 97 = .ok (.aload_n 0, 1) := by decide +kernel
theorem dX6_putIn_98 : decode cX6_putIn 98 = .ok (.getfield 7, 3) := by decide +kernel
theorem dX6_putIn_101 : decode cX6_putIn 101 = .ok (.sipush 480, 3) := by decide +kernel
theorem dX6_putIn_104 : decode cX6_putIn 104 = .ok (.iload_n 1, 1) := by decide +kernel
theorem dX6_putIn_105 : decode cX6_putIn 105 = .ok (.iadd, 1) := by decide +kernel
theorem dX6_putIn_106 : decode cX6_putIn 106 = .ok (.iaload, 1) := by decide +kernel
theorem dX6_putIn_107 : decode cX6_putIn 107 = .ok (.istore 5, 2) := by decide +kernel
theorem dX6_putIn_109 : decode cX6_putIn 109 = .ok (.iload 5, 2) := by decide +kernel
theorem dX6_putIn_111 : decode cX6_putIn 111 = .ok (.iload 4, 2) := by decide +kernel
theorem dX6_putIn_113 : decode cX6_putIn 113 = .ok (.if_icmp .le 73, 3) := by decide +kernel
theorem dX6_putIn_116 : decode cX6_putIn 116 = .ok (.aload_n 0, 1) := by decide +kernel
theorem dX6_putIn_117 : decode cX6_putIn 117 = .ok (.getfield 7, 3) := by decide +kernel
theorem dX6_putIn_120 : decode cX6_putIn 120 = .ok (.iconst 0, 1) := by decide +kernel
theorem dX6_putIn_121 : decode cX6_putIn 121 = .ok (.bipush 40, 2) := by decide +kernel
theorem dX6_putIn_123 : decode cX6_putIn 123 = .ok (.iload_n 1, 1) := by decide +kernel
theorem dX6_putIn_124 : decode cX6_putIn 124 = .ok (.imul, 1) := by decide +kernel
theorem dX6_putIn_125 : decode cX6_putIn 125 = .ok (.iadd, 1) := by decide +kernel
theorem dX6_putIn_126 : decode cX6_putIn 126 = .ok (.iload 5, 2) := by decide +kernel
theorem dX6_putIn_128 : decode cX6_putIn 128 = .ok (.iadd, 1) := by decide +kernel
theorem dX6_putIn_129 : decode cX6_putIn 129 = .ok (.aload_n 0, 1) := by decide +kernel
theorem dX6_putIn_130 : decode cX6_putIn 130 = .ok (.getfield 7, 3) := by decide +kernel
theorem dX6_putIn_133 : decode cX6_putIn 133 = .ok (.iconst 0, 1) := by decide +kernel
theorem dX6_putIn_134 : decode cX6_putIn 134 = .ok (.bipush 40, 2) := by decide +kernel
theorem dX6_putIn_136 : decode cX6_putIn 136 = .ok (.iload_n 1, 1) := by decide +kernel
theorem dX6_putIn_137 : decode cX6_putIn 137 = .ok (.imul, 1) := by decide +kernel
theorem dX6_putIn_138 : decode cX6_putIn 138 = .ok (.iadd, 1) := by decide +kernel
theorem dX6_putIn_139 : decode cX6_putIn 139 = .ok (.iload 5, 2) := by decide +kernel
theorem dX6_putIn_141 : decode cX6_putIn 141 = .ok (.iadd, 1) := by decide +kernel
theorem dX6_putIn_142 : decode cX6_putIn 142 = .ok (.iconst 1, 1) := by decide +kernel
theorem dX6_putIn_143 : decode cX6_putIn 143 = .ok (.isub, 1) := by decide +kernel
theorem dX6_putIn_144 : decode cX6_putIn 144 = .ok (.iaload, 1) := by decide +kernel
theorem dX6_putIn_145 : decode cX6_putIn 145 = .ok (.iastore, 1) := by decide +kernel
theorem dX6_putIn_146 : decode cX6_putIn 146 = .ok (.aload_n 0, 1) := by decide +kernel
theorem dX6_putIn_147 : decode cX6_putIn 147 = .ok (.getfield 7, 3) := by decide +kernel
theorem dX6_putIn_150 : decode cX6_putIn 150 = .ok (.sipush 240, 3) := by decide +kernel
theorem dX6_putIn_153 : decode cX6_putIn 153 = .ok (.bipush 40, 2) := by decide +kernel
theorem dX6_putIn_155 : decode cX6_putIn 155 = .ok (.iload_n 1, 1) := by decide +kernel
theorem dX6_putIn_156 : decode cX6_putIn 156 = .ok (.imul, 1) := by decide +kernel
theorem dX6_putIn_157 : decode cX6_putIn 157 = .ok (.iadd, 1) := by decide +kernel
theorem dX6_putIn_158 : decode cX6_putIn 158 = .ok (.iload 5, 2) := by decide +kernel
theorem dX6_putIn_160 : decode cX6_putIn 160 = .ok (.iadd, 1) := by decide +kernel
theorem dX6_putIn_161 : decode cX6_putIn 161 = .ok (.aload_n 0, 1) := by decide +kernel
theorem dX6_putIn_162 : decode cX6_putIn 162 = .ok (.getfield 7, 3) := by decide +kernel
theorem dX6_putIn_165 : decode cX6_putIn 165 = .ok (.sipush 240, 3) := by decide +kernel
theorem dX6_putIn_168 : decode cX6_putIn 168 = .ok (.bipush 40, 2) := by decide +kernel
theorem dX6_putIn_170 : decode cX6_putIn 170 = .ok (.iload_n 1, 1) := by decide +kernel
theorem dX6_putIn_171 : decode cX6_putIn 171 = .ok (.imul, 1) := by decide +kernel
theorem dX6_putIn_172 : decode cX6_putIn 172 = .ok (.iadd, 1) := by decide +kernel
theorem dX6_putIn_173 : decode cX6_putIn 173 = .ok (.iload 5, 2) := by decide +kernel
theorem dX6_putIn_175 : decode cX6_putIn 175 = .ok (.iadd, 1) := by decide +kernel
theorem dX6_putIn_176 : decode cX6_putIn 176 = .ok (.iconst 1, 1) := by decide +kernel
theorem dX6_putIn_177 : decode cX6_putIn 177 = .ok (.isub, 1) := by decide +kernel
theorem dX6_putIn_178 : decode cX6_putIn 178 = .ok (.iaload, 1) := by decide +kernel
theorem dX6_putIn_179 : decode cX6_putIn 179 = .ok (.iastore, 1) := by decide +kernel
theorem dX6_putIn_180 : decode cX6_putIn 180 = .ok (.iinc 5 (-1), 3) := by decide +kernel
theorem dX6_putIn_183 : decode cX6_putIn 183 = .ok (.goto (-74), 3) := by decide +kernel
theorem dX6_putIn_186 : decode cX6_putIn 186 = .ok (.aload_n 0, 1) := by decide +kernel
theorem dX6_putIn_187 : decode cX6_putIn 187 = .ok (.getfield 7, 3) := by decide +kernel
theorem dX6_putIn_190 : decode cX6_putIn 190 = .ok (.iconst 0, 1) := by decide +kernel
theorem dX6_putIn_191 : decode cX6_putIn 191 = .ok (.bipush 40, 2) := by decide +kernel
theorem dX6_putIn_193 : decode cX6_putIn 193 = .ok (.iload_n 1, 1) := by decide +kernel
theorem dX6_putIn_194 : decode cX6_putIn 194 = .ok (.imul, 1) := by decide +kernel
theorem dX6_putIn_195 : decode cX6_putIn 195 = .ok (.iadd, 1) := by decide +kernel
theorem dX6_putIn_196 : decode cX6_putIn 196 = .ok (.iload 4, 2) := by decide +kernel
theorem dX6_putIn_198 : decode cX6_putIn 198 = .ok (.iadd, 1) := by decide +kernel
theorem dX6_putIn_199 : decode cX6_putIn 199 = .ok (.iload_n 2, 1) := by decide +kernel
theorem dX6_putIn_200 : decode cX6_putIn 200 = .ok (.iastore, 1) := by decide +kernel
theorem dX6_putIn_201 : decode cX6_putIn 201 = .ok (.aload_n 0, 1) := by decide +kernel
theorem dX6_putIn_202 : decode cX6_putIn 202 = .ok (.getfield 7, 3) := by decide +kernel
theorem dX6_putIn_205 : decode cX6_putIn 205 = .ok (.sipush 240, 3) := by decide +kernel
theorem dX6_putIn_208 : decode cX6_putIn 208 = .ok (.bipush 40, 2) := by decide +kernel
theorem dX6_putIn_210 : decode cX6_putIn 210 = .ok (.iload_n 1, 1) := by decide +kernel
theorem dX6_putIn_211 : decode cX6_putIn 211 = .ok (.imul, 1) := by decide +kernel
theorem dX6_putIn_212 : decode cX6_putIn 212 = .ok (.iadd, 1) := by decide +kernel
theorem dX6_putIn_213 : decode cX6_putIn 213 = .ok (.iload 4, 2) := by decide +kernel
theorem dX6_putIn_215 : decode cX6_putIn 215 = .ok (.iadd, 1) := by decide +kernel
theorem dX6_putIn_216 : decode cX6_putIn 216 = .ok (.iload_n 3, 1) := by decide +kernel
theorem dX6_putIn_217 : decode cX6_putIn 217 = .ok (.iastore, 1) := by decide +kernel
theorem dX6_putIn_218 : decode cX6_putIn 218 = .ok (.aload_n 0, 1) := by decide +kernel
theorem dX6_putIn_219 : decode cX6_putIn 219 = .ok (.getfield 7, 3) := by decide +kernel
theorem dX6_putIn_222 : decode cX6_putIn 222 = .ok (.sipush 480, 3) := by decide +kernel
theorem dX6_putIn_225 : decode cX6_putIn 225 = .ok (.iload_n 1, 1) := by decide +kernel
theorem dX6_putIn_226 : decode cX6_putIn 226 = .ok (.iadd, 1) := by decide +kernel
theorem dX6_putIn_227 : decode cX6_putIn 227 = .ok (.dup2, 1) := by decide +kernel
theorem dX6_putIn_228 : decode cX6_putIn 228 = .ok (.iaload, 1) := by decide +kernel
theorem dX6_putIn_229 : decode cX6_putIn 229 = .ok (.iconst 1, 1) := by decide +kernel
theorem dX6_putIn_230 : decode cX6_putIn 230 = .ok (.iadd, 1) := by decide +kernel
theorem dX6_putIn_231 : decode cX6_putIn 231 = .ok (.iastore, 1) := by decide +kernel
theorem dX6_putIn_232 : decode cX6_putIn 232 = .ok (.iload 4, 2) := by decide +kernel
theorem dX6_putIn_234 : decode cX6_putIn 234 = .ok (.ireturn, 1) := by decide +kernel
theorem dX6_add_0 : decode cX6_add 0 = .ok (.iload_n 1, 1) := by decide +kernel
theorem dX6_add_1 : decode cX6_add 1 = .ok (.invokestatic 51, 3) := by decide +kernel
theorem dX6_add_4 : decode cX6_add 4 = .ok (.ifCond .eq 10, 3) := by decide +kernel
theorem dX6_add_7 : decode cX6_add 7 = .ok (.iload_n 2, 1) := by decide +kernel
theorem dX6_add_8 : decode cX6_add 8 = .ok (.invokestatic 55, 3) := by decide +kernel
theorem dX6_add_11 : decode cX6_add 11 = .ok (.ifCond .ne 5, 3) := by decide +kernel
theorem dX6_add_14 : decode cX6_add 14 = .ok (.iconst (-1), 1) := by decide +kernel
theorem dX6_add_15 : decode cX6_add 15 = .ok (.ireturn, 1) := by decide +kernel
theorem dX6_add_16 : decode cX6_add 16 = .ok (.iload_n 3, 1) := by decide +kernel
theorem dX6_add_17 : decode cX6_add 17 = .ok (.iconst 1, 1) := by decide +kernel
theorem dX6_add_18 : decode cX6_add 18 = .ok (.if_icmp .lt 10, 3) := by decide +kernel
theorem dX6_add_21 : decode cX6_add 21 = .ok (.iload_n 3, 1) := by decide +kernel
theorem dX6_add_22 : decode cX6_add 22 = .ok (.sipush 999, 3) := by decide +kernel
theorem dX6_add_25 : decode cX6_add 25 = .ok (.if_icmp .le 6, 3) := by decide +kernel
theorem dX6_add_28 : decode cX6_add 28 = .ok (.bipush (-2), 2) := by decide +kernel
theorem dX6_add_30 : decode cX6_add 30 = .ok (.ireturn, 1) := by decide +kernel
theorem dX6_add_31 : decode cX6_add 31 = .ok (.aload_n 0, 1) := by decide +kernel
theorem dX6_add_32 : decode cX6_add 32 = .ok (.getfield 7, 3) := by decide +kernel
theorem dX6_add_35 : decode cX6_add 35 = .ok (.sipush 559, 3) := by decide +kernel
theorem dX6_add_38 : decode cX6_add 38 = .ok (.iaload, 1) := by decide +kernel
theorem dX6_add_39 : decode cX6_add 39 = .ok (.iconst 1, 1) := by decide +kernel
theorem dX6_add_40 : decode cX6_add 40 = .ok (.if_icmp .ne 6, 3) := by decide +kernel
theorem dX6_add_43 : decode cX6_add 43 = .ok (.bipush (-4), 2) := by decide +kernel
theorem dX6_add_45 : decode cX6_add 45 = .ok (.ireturn, 1) := by decide +kernel
theorem dX6_add_46 : decode cX6_add 46 = .ok (.aload_n 0, 1) := by decide +kernel
theorem dX6_add_47 : decode cX6_add 47 = .ok (.iload_n 1, 1) := by decide +kernel
theorem dX6_add_48 : decode cX6_add 48 = .ok (.iload_n 2, 1) := by decide +kernel
theorem dX6_add_49 : decode cX6_add 49 = .ok (.invokevirtual 47, 3) := by decide +kernel
theorem dX6_add_52 : decode cX6_add 52 = .ok (.istore 4, 2) := by decide +kernel
theorem dX6_add_54 : decode cX6_add 54 = .ok (.iload 4, 2) := by decide +kernel
theorem dX6_add_56 : decode cX6_add 56 = .ok (.ifCond .ge 21, 3) := by decide +kernel
theorem dX6_add_59 : decode cX6_add 59 = .ok (.aload_n 0, 1) := by decide +kernel
theorem dX6_add_60 : decode cX6_add 60 = .ok (.getfield 7, 3) := by decide +kernel
theorem dX6_add_63 : decode cX6_add 63 = .ok (.sipush 480, 3) := by decide +kernel
theorem dX6_add_66 : decode cX6_add 66 = .ok (.iload_n 1, 1) := by decide +kernel
theorem dX6_add_67 : decode cX6_add 67 = .ok (.iadd, 1) := by decide +kernel
theorem dX6_add_68 : decode cX6_add 68 = .ok (.iaload, 1) := by decide +kernel
theorem dX6_add_69 : decode cX6_add 69 = .ok (.bipush 40, 2) := by decide +kernel
theorem dX6_add_71 : decode cX6_add 71 = .ok (.if_icmp .ne 6, 3) := by decide +kernel
theorem dX6_add_74 : decode cX6_add 74 = .ok (.bipush (-3), 2) := by decide +kernel
theorem dX6_add_76 : decode cX6_add 76 = .ok (.ireturn, 1) := by decide +kernel
theorem dX6_add_77 : decode cX6_add 77 = .ok (.iload 4, 2) := by decide +kernel
theorem dX6_add_79 : decode cX6_add 79 = .ok (.ifCond .lt 26, 3) := by decide +kernel
theorem dX6_add_82 : decode cX6_add 82 = .ok (.aload_n 0, 1) := by decide +kernel
theorem dX6_add_83 : decode cX6_add 83 = .ok (.getfield 7, 3) := by decide +kernel
theorem dX6_add_86 : decode cX6_add 86 = .ok (.sipush 240, 3) := by decide +kernel
theorem dX6_add_89 : decode cX6_add 89 = .ok (.bipush 40, 2) := by decide +kernel
theorem dX6_add_91 : decode cX6_add 91 = .ok (.iload_n 1, 1) := by decide +kernel
theorem dX6_add_92 : decode cX6_add 92 = .ok (.imul, 1) := by decide +kernel
theorem dX6_add_93 : decode cX6_add 93 = .ok (.iadd, 1) := by decide +kernel
theorem dX6_add_94 : decode cX6_add 94 = .ok (.iload 4, 2) := by decide +kernel
theorem dX6_add_96 : decode cX6_add 96 = .ok (.iadd, 1) := by decide +kernel
theorem dX6_add_97 : decode cX6_add 97 = .ok (.iaload, 1) := by decide +kernel
theorem dX6_add_98 : decode cX6_add 98 = .ok (.iload_n 3, 1) := by decide +kernel
theorem dX6_add_99 : decode cX6_add 99 = .ok (.if_icmp .ne 6, 3) := by decide +kernel
theorem dX6_add_102 : decode cX6_add 102 = .ok (.bipush (-5), 2) := by decide +kernel
theorem dX6_add_104 : decode cX6_add 104 = .ok (.ireturn, 1) := by decide +kernel
theorem dX6_add_105 : decode cX6_add 105 = .ok (.aload_n 0, 1) := by decide +kernel
theorem dX6_add_106 : decode cX6_add 106 = .ok (.invokevirtual 44, 3) := by decide +kernel
theorem dX6_add_109 : decode cX6_add 109 = .ok (.iload 4, 2) := by decide +kernel
theorem dX6_add_111 : decode cX6_add 111 = .ok (.ifCond .lt 10, 3) := by decide +kernel
theorem dX6_add_114 : decode cX6_add 114 = .ok (.aload_n 0, 1) := by decide +kernel
theorem dX6_add_115 : decode cX6_add 115 = .ok (.iload_n 1, 1) := by decide +kernel
theorem dX6_add_116 : decode cX6_add 116 = .ok (.iload 4, 2) := by decide +kernel
theorem dX6_add_118 : decode cX6_add 118 = .ok (.invokevirtual 58, 3) := by decide +kernel
theorem dX6_add_121 : decode cX6_add 121 = .ok (.aload_n 0, 1) := by decide +kernel
theorem dX6_add_122 : decode cX6_add 122 = .ok (.iload_n 1, 1) := by decide +kernel
theorem dX6_add_123 : decode cX6_add 123 = .ok (.iload_n 2, 1) := by decide +kernel
theorem dX6_add_124 : decode cX6_add 124 = .ok (.iload_n 3, 1) := by decide +kernel
theorem dX6_add_125 : decode cX6_add 125 = .ok (.invokevirtual 62, 3) := by decide +kernel
theorem dX6_add_128 : decode cX6_add 128 = .ok (.ireturn, 1) := by decide +kernel
theorem dX6_drop_0 : decode cX6_drop 0 = .ok (.iload_n 1, 1) := by decide +kernel
theorem dX6_drop_1 : decode cX6_drop 1 = .ok (.invokestatic 51, 3) := by decide +kernel
theorem dX6_drop_4 : decode cX6_drop 4 = .ok (.ifCond .eq 10, 3) := by decide +kernel
theorem dX6_drop_7 : decode cX6_drop 7 = .ok (.iload_n 2, 1) := by decide +kernel
theorem dX6_drop_8 : decode cX6_drop 8 = .ok (.invokestatic 55, 3) := by decide +kernel
theorem dX6_drop_11 : decode cX6_drop 11 = .ok (.ifCond .ne 5, 3) := by decide +kernel
theorem dX6_drop_14 : decode cX6_drop 14 = .ok (.iconst (-1), 1) := by decide +kernel
theorem dX6_drop_15 : decode cX6_drop 15 = .ok (.ireturn, 1) := by decide +kernel
theorem dX6_drop_16 : decode cX6_drop 16 = .ok (.aload_n 0, 1) := by decide +kernel
theorem dX6_drop_17 : decode cX6_drop 17 = .ok (.iload_n 1, 1) := by decide +kernel
theorem dX6_drop_18 : decode cX6_drop 18 = .ok (.iload_n 2, 1) := by decide +kernel
theorem dX6_drop_19 : decode cX6_drop 19 = .ok (.invokevirtual 47, 3) := by decide +kernel
theorem dX6_drop_22 : decode cX6_drop 22 = .ok (.istore_n 3, 1) := by decide +kernel
theorem dX6_drop_23 : decode cX6_drop 23 = .ok (.iload_n 3, 1) := by decide +kernel
theorem dX6_drop_24 : decode cX6_drop 24 = .ok (.ifCond .ge 5, 3) := by decide +kernel
theorem dX6_drop_27 : decode cX6_drop 27 = .ok (.iconst (-1), 1) := by decide +kernel
theorem dX6_drop_28 : decode cX6_drop 28 = .ok (.ireturn, 1) := by decide +kernel
theorem dX6_drop_29 : decode cX6_drop 29 = .ok (.aload_n 0, 1) := by decide +kernel
theorem dX6_drop_30 : decode cX6_drop 30 = .ok (.getfield 7, 3) := by decide +kernel
theorem dX6_drop_33 : decode cX6_drop 33 = .ok (.sipush 559, 3) := by decide +kernel
theorem dX6_drop_36 : decode cX6_drop 36 = .ok (.iaload, 1) := by decide +kernel
theorem dX6_drop_37 : decode cX6_drop 37 = .ok (.iconst 1, 1) := by decide +kernel
theorem dX6_drop_38 : decode cX6_drop 38 = .ok (.if_icmp .ne 6, 3) := by decide +kernel
theorem dX6_drop_41 : decode cX6_drop 41 = .ok (.bipush (-4), 2) := by decide +kernel
theorem dX6_drop_43 : decode cX6_drop 43 = .ok (.ireturn, 1) := by decide +kernel
theorem dX6_drop_44 : decode cX6_drop 44 = .ok (.aload_n 0, 1) := by decide +kernel
theorem dX6_drop_45 : decode cX6_drop 45 = .ok (.invokevirtual 44, 3) := by decide +kernel
theorem dX6_drop_48 : decode cX6_drop 48 = .ok (.aload_n 0, 1) := by decide +kernel
theorem dX6_drop_49 : decode cX6_drop 49 = .ok (.iload_n 1, 1) := by decide +kernel
theorem dX6_drop_50 : decode cX6_drop 50 = .ok (.iload_n 3, 1) := by decide +kernel
theorem dX6_drop_51 : decode cX6_drop 51 = .ok (.invokevirtual 58, 3) := by decide +kernel
theorem dX6_drop_54 : decode cX6_drop 54 = .ok (.aload_n 0, 1) := by decide +kernel
theorem dX6_drop_55 : decode cX6_drop 55 = .ok (.getfield 7, 3) := by decide +kernel
theorem dX6_drop_58 : decode cX6_drop 58 = .ok (.sipush 480, 3) := by decide +kernel
theorem dX6_drop_61 : decode cX6_drop 61 = .ok (.iload_n 1, 1) := by decide +kernel
theorem dX6_drop_62 : decode cX6_drop 62 = .ok (.iadd, 1) := by decide +kernel
theorem dX6_drop_63 : decode cX6_drop 63 = .ok (.iaload, 1) := by decide +kernel
theorem dX6_drop_64 : decode cX6_drop 64 = .ok (.ireturn, 1) := by decide +kernel
theorem dX6_listsOf_0 : decode cX6_listsOf 0 = .ok (.iconst 0, 1) := by decide +kernel
theorem dX6_listsOf_1 : decode cX6_listsOf 1 = .ok (.istore_n 2, 1) := by decide +kernel
theorem dX6_listsOf_2 : decode cX6_listsOf 2 = .ok (.iconst 0, 1) := by decide +kernel
theorem dX6_listsOf_3 : decode cX6_listsOf 3 = .ok (.istore_n 3, 1) := by decide +kernel
theorem dX6_listsOf_4 : decode cX6_listsOf 4 = .ok (.iload_n 3, 1) := by decide +kernel
theorem dX6_listsOf_5 : decode cX6_listsOf 5 = .ok (.bipush 6, 2) := by decide +kernel
theorem dX6_listsOf_7 : decode cX6_listsOf 7 = .ok (.if_icmp .ge 28, 3) := by decide +kernel
theorem dX6_listsOf_10 : decode cX6_listsOf 10 = .ok (.iload_n 2, 1) := by decide +kernel
theorem dX6_listsOf_11 : decode cX6_listsOf 11 = .ok (.aload_n 0, 1) := by decide +kernel
theorem dX6_listsOf_12 : decode cX6_listsOf 12 = .ok (.iload_n 3, 1) := by decide +kernel
theorem dX6_listsOf_13 : decode cX6_listsOf 13 = .ok (.iload_n 1, 1) := by decide +kernel
theorem dX6_listsOf_14 : decode cX6_listsOf 14 = .ok (.invokevirtual 47, 3) := by decide +kernel
theorem dX6_listsOf_17 : decode cX6_listsOf 17 = .ok (.ifCond .lt 9, 3) := by decide +kernel
theorem dX6_listsOf_20 : decode cX6_listsOf 20 = .ok (.iconst 1, 1) := by decide +kernel
theorem dX6_listsOf_21 : decode cX6_listsOf 21 = .ok (.iload_n 3, 1) := by decide +kernel
theorem dX6_listsOf_22 : decode cX6_listsOf 22 = .ok (.ishl, 1) := by decide +kernel
theorem dX6_listsOf_23 : decode cX6_listsOf 23 = .ok (.goto 4, 3) := by decide +kernel
theorem dX6_listsOf_26 : decode cX6_listsOf 26 = .ok (.iconst 0, 1) := by decide +kernel
theorem dX6_listsOf_27 : decode cX6_listsOf 27 = .ok (.ior, 1) := by decide +kernel
theorem dX6_listsOf_28 : decode cX6_listsOf 28 = .ok (.istore_n 2, 1) := by decide +kernel
theorem dX6_listsOf_29 : decode cX6_listsOf 29 = .ok (.iinc 3 1, 3) := by decide +kernel
theorem dX6_listsOf_32 : decode cX6_listsOf 32 = .ok (.goto (-28), 3) := by decide +kernel
theorem dX6_listsOf_35 : decode cX6_listsOf 35 = .ok (.iload_n 2, 1) := by decide +kernel
theorem dX6_listsOf_36 : decode cX6_listsOf 36 = .ok (.ireturn, 1) := by decide +kernel
theorem dX6_bits_0 : decode cX6_bits 0 = .ok (.iconst 0, 1) := by decide +kernel
theorem dX6_bits_1 : decode cX6_bits 1 = .ok (.istore_n 1, 1) := by decide +kernel
theorem dX6_bits_2 : decode cX6_bits 2 = .ok (.iconst 0, 1) := by decide +kernel
theorem dX6_bits_3 : decode cX6_bits 3 = .ok (.istore_n 2, 1) := by decide +kernel
theorem dX6_bits_4 : decode cX6_bits 4 = .ok (.iload_n 2, 1) := by decide +kernel
theorem dX6_bits_5 : decode cX6_bits 5 = .ok (.bipush 6, 2) := by decide +kernel
theorem dX6_bits_7 : decode cX6_bits 7 = .ok (.if_icmp .ge 17, 3) := by decide +kernel
theorem dX6_bits_10 : decode cX6_bits 10 = .ok (.iload_n 1, 1) := by decide +kernel
theorem dX6_bits_11 : decode cX6_bits 11 = .ok (.iload_n 0, 1) := by decide +kernel
theorem dX6_bits_12 : decode cX6_bits 12 = .ok (.iload_n 2, 1) := by decide +kernel
theorem dX6_bits_13 : decode cX6_bits 13 = .ok (.ishr, 1) := by decide +kernel
theorem dX6_bits_14 : decode cX6_bits 14 = .ok (.iconst 1, 1) := by decide +kernel
theorem dX6_bits_15 : decode cX6_bits 15 = .ok (.iand, 1) := by decide +kernel
theorem dX6_bits_16 : decode cX6_bits 16 = .ok (.iadd, 1) := by decide +kernel
theorem dX6_bits_17 : decode cX6_bits 17 = .ok (.istore_n 1, 1) := by decide +kernel
theorem dX6_bits_18 : decode cX6_bits 18 = .ok (.iinc 2 1, 3) := by decide +kernel
theorem dX6_bits_21 : decode cX6_bits 21 = .ok (.goto (-17), 3) := by decide +kernel
theorem dX6_bits_24 : decode cX6_bits 24 = .ok (.iload_n 1, 1) := by decide +kernel
theorem dX6_bits_25 : decode cX6_bits 25 = .ok (.ireturn, 1) := by decide +kernel
theorem dX6_gone_0 : decode cX6_gone 0 = .ok (.iload_n 1, 1) := by decide +kernel
theorem dX6_gone_1 : decode cX6_gone 1 = .ok (.invokestatic 55, 3) := by decide +kernel
theorem dX6_gone_4 : decode cX6_gone 4 = .ok (.ifCond .ne 5, 3) := by decide +kernel
theorem dX6_gone_7 : decode cX6_gone 7 = .ok (.iconst (-1), 1) := by decide +kernel
theorem dX6_gone_8 : decode cX6_gone 8 = .ok (.ireturn, 1) := by decide +kernel
theorem dX6_gone_9 : decode cX6_gone 9 = .ok (.aload_n 0, 1) := by decide +kernel
theorem dX6_gone_10 : decode cX6_gone 10 = .ok (.getfield 7, 3) := by decide +kernel
theorem dX6_gone_13 : decode cX6_gone 13 = .ok (.sipush 559, 3) := by decide +kernel
theorem dX6_gone_16 : decode cX6_gone 16 = .ok (.iaload, 1) := by decide +kernel
theorem dX6_gone_17 : decode cX6_gone 17 = .ok (.iconst 1, 1) := by decide +kernel
theorem dX6_gone_18 : decode cX6_gone 18 = .ok (.if_icmp .ne 6, 3) := by decide +kernel
theorem dX6_gone_21 : decode cX6_gone 21 = .ok (.bipush (-4), 2) := by decide +kernel
theorem dX6_gone_23 : decode cX6_gone 23 = .ok (.ireturn, 1) := by decide +kernel
theorem dX6_gone_24 : decode cX6_gone 24 = .ok (.aload_n 0, 1) := by decide +kernel
theorem dX6_gone_25 : decode cX6_gone 25 = .ok (.getfield 7, 3) := by decide +kernel
theorem dX6_gone_28 : decode cX6_gone 28 = .ok (.sipush 498, 3) := by decide +kernel
theorem dX6_gone_31 : decode cX6_gone 31 = .ok (.iload_n 1, 1) := by decide +kernel
theorem dX6_gone_32 : decode cX6_gone 32 = .ok (.iadd, 1) := by decide +kernel
theorem dX6_gone_33 : decode cX6_gone 33 = .ok (.iaload, 1) := by decide +kernel
theorem dX6_gone_34 : decode cX6_gone 34 = .ok (.iload_n 2, 1) := by decide +kernel
theorem dX6_gone_35 : decode cX6_gone 35 = .ok (.if_icmp .ne 6, 3) := by decide +kernel
theorem dX6_gone_38 : decode cX6_gone 38 = .ok (.bipush (-5), 2) := by decide +kernel
theorem dX6_gone_40 : decode cX6_gone 40 = .ok (.ireturn, 1) := by decide +kernel
theorem dX6_gone_41 : decode cX6_gone 41 = .ok (.aload_n 0, 1) := by decide +kernel
theorem dX6_gone_42 : decode cX6_gone 42 = .ok (.invokevirtual 44, 3) := by decide +kernel
theorem dX6_gone_45 : decode cX6_gone 45 = .ok (.aload_n 0, 1) := by decide +kernel
theorem dX6_gone_46 : decode cX6_gone 46 = .ok (.getfield 7, 3) := by decide +kernel
theorem dX6_gone_49 : decode cX6_gone 49 = .ok (.sipush 498, 3) := by decide +kernel
theorem dX6_gone_52 : decode cX6_gone 52 = .ok (.iload_n 1, 1) := by decide +kernel
theorem dX6_gone_53 : decode cX6_gone 53 = .ok (.iadd, 1) := by decide +kernel
theorem dX6_gone_54 : decode cX6_gone 54 = .ok (.iload_n 2, 1) := by decide +kernel
theorem dX6_gone_55 : decode cX6_gone 55 = .ok (.iastore, 1) := by decide +kernel
theorem dX6_gone_56 : decode cX6_gone 56 = .ok (.aload_n 0, 1) := by decide +kernel
theorem dX6_gone_57 : decode cX6_gone 57 = .ok (.iload_n 1, 1) := by decide +kernel
theorem dX6_gone_58 : decode cX6_gone 58 = .ok (.invokevirtual 66, 3) := by decide +kernel
theorem dX6_gone_61 : decode cX6_gone 61 = .ok (.invokestatic 70, 3) := by decide +kernel
theorem dX6_gone_64 : decode cX6_gone 64 = .ok (.ireturn, 1) := by decide +kernel
theorem dX6_delete_0 : decode cX6_delete 0 = .ok (.aload_n 0, 1) := by decide +kernel
theorem dX6_delete_1 : decode cX6_delete 1 = .ok (.iload_n 1, 1) := by decide +kernel
theorem dX6_delete_2 : decode cX6_delete 2 = .ok (.iconst 1, 1) := by decide +kernel
theorem dX6_delete_3 : decode cX6_delete 3 = .ok (.invokevirtual 73, 3) := by decide +kernel
theorem dX6_delete_6 : decode cX6_delete 6 = .ok (.ireturn, 1) := by decide +kernel
theorem dX6_bring_0 : decode cX6_bring 0 = .ok (.aload_n 0, 1) := by decide +kernel
theorem dX6_bring_1 : decode cX6_bring 1 = .ok (.iload_n 1, 1) := by decide +kernel
theorem dX6_bring_2 : decode cX6_bring 2 = .ok (.iconst 0, 1) := by decide +kernel
theorem dX6_bring_3 : decode cX6_bring 3 = .ok (.invokevirtual 73, 3) := by decide +kernel
theorem dX6_bring_6 : decode cX6_bring 6 = .ok (.ireturn, 1) := by decide +kernel
theorem dX6_setOf_0 : decode cX6_setOf 0 = .ok (.iload_n 2, 1) := by decide +kernel
theorem dX6_setOf_1 : decode cX6_setOf 1 = .ok (.invokestatic 51, 3) := by decide +kernel
theorem dX6_setOf_4 : decode cX6_setOf 4 = .ok (.ifCond .ne 5, 3) := by decide +kernel
theorem dX6_setOf_7 : decode cX6_setOf 7 = .ok (.iconst (-1), 1) := by decide +kernel
theorem dX6_setOf_8 : decode cX6_setOf 8 = .ok (.ireturn, 1) := by decide +kernel
theorem dX6_setOf_9 : decode cX6_setOf 9 = .ok (.iload_n 3, 1) := by decide +kernel
theorem dX6_setOf_10 : decode cX6_setOf 10 = .ok (.ifCond .lt 9, 3) := by decide +kernel
theorem dX6_setOf_13 : decode cX6_setOf 13 = .ok (.iload_n 3, 1) := by decide +kernel
theorem dX6_setOf_14 : decode cX6_setOf 14 = .ok (.iload 4, 2) := by decide +kernel
theorem dX6_setOf_16 : decode cX6_setOf 16 = .ok (.if_icmp .le 6, 3) := by decide +kernel
theorem dX6_setOf_19 : decode cX6_setOf 19 = .ok (.bipush (-2), 2) := by decide +kernel
theorem dX6_setOf_21 : decode cX6_setOf 21 = .ok (.ireturn, 1) := by decide +kernel
theorem dX6_setOf_22 : decode cX6_setOf 22 = .ok (.aload_n 0, 1) := by decide +kernel
theorem dX6_setOf_23 : decode cX6_setOf 23 = .ok (.getfield 7, 3) := by decide +kernel
theorem dX6_setOf_26 : decode cX6_setOf 26 = .ok (.sipush 559, 3) := by decide +kernel
theorem dX6_setOf_29 : decode cX6_setOf 29 = .ok (.iaload, 1) := by decide +kernel
theorem dX6_setOf_30 : decode cX6_setOf 30 = .ok (.iconst 1, 1) := by decide +kernel
theorem dX6_setOf_31 : decode cX6_setOf 31 = .ok (.if_icmp .ne 6, 3) := by decide +kernel
theorem dX6_setOf_34 : decode cX6_setOf 34 = .ok (.bipush (-4), 2) := by decide +kernel
theorem dX6_setOf_36 : decode cX6_setOf 36 = .ok (.ireturn, 1) := by decide +kernel
theorem dX6_setOf_37 : decode cX6_setOf 37 = .ok (.aload_n 0, 1) := by decide +kernel
theorem dX6_setOf_38 : decode cX6_setOf 38 = .ok (.getfield 7, 3) := by decide +kernel
theorem dX6_setOf_41 : decode cX6_setOf 41 = .ok (.iload_n 1, 1) := by decide +kernel
theorem dX6_setOf_42 : decode cX6_setOf 42 = .ok (.iload_n 2, 1) := by decide +kernel
theorem dX6_setOf_43 : decode cX6_setOf 43 = .ok (.iadd, 1) := by decide +kernel
theorem dX6_setOf_44 : decode cX6_setOf 44 = .ok (.iaload, 1) := by decide +kernel
theorem dX6_setOf_45 : decode cX6_setOf 45 = .ok (.istore 5, 2) := by decide +kernel
theorem dX6_setOf_47 : decode cX6_setOf 47 = .ok (.iload 5, 2) := by decide +kernel
theorem dX6_setOf_49 : decode cX6_setOf 49 = .ok (.iload_n 3, 1) := by decide +kernel
theorem dX6_setOf_50 : decode cX6_setOf 50 = .ok (.if_icmp .ne 6, 3) := by decide +kernel
theorem dX6_setOf_53 : decode cX6_setOf 53 = .ok (.bipush (-5), 2) := by decide +kernel
theorem dX6_setOf_55 : decode cX6_setOf 55 = .ok (.ireturn, 1) := by decide +kernel
theorem dX6_setOf_56 : decode cX6_setOf 56 = .ok (.aload_n 0, 1) := by decide +kernel
theorem dX6_setOf_57 : decode cX6_setOf 57 = .ok (.invokevirtual 44, 3) := by decide +kernel
theorem dX6_setOf_60 : decode cX6_setOf 60 = .ok (.aload_n 0, 1) := by decide +kernel
theorem dX6_setOf_61 : decode cX6_setOf 61 = .ok (.getfield 7, 3) := by decide +kernel
theorem dX6_setOf_64 : decode cX6_setOf 64 = .ok (.iload_n 1, 1) := by decide +kernel
theorem dX6_setOf_65 : decode cX6_setOf 65 = .ok (.iload_n 2, 1) := by decide +kernel
theorem dX6_setOf_66 : decode cX6_setOf 66 = .ok (.iadd, 1) := by decide +kernel
theorem dX6_setOf_67 : decode cX6_setOf 67 = .ok (.iload_n 3, 1) := by decide +kernel
theorem dX6_setOf_68 : decode cX6_setOf 68 = .ok (.iastore, 1) := by decide +kernel
theorem dX6_setOf_69 : decode cX6_setOf 69 = .ok (.iload 5, 2) := by decide +kernel
theorem dX6_setOf_71 : decode cX6_setOf 71 = .ok (.ireturn, 1) := by decide +kernel
theorem dX6_weight_0 : decode cX6_weight 0 = .ok (.aload_n 0, 1) := by decide +kernel
theorem dX6_weight_1 : decode cX6_weight 1 = .ok (.sipush 486, 3) := by decide +kernel
theorem dX6_weight_4 : decode cX6_weight 4 = .ok (.iload_n 1, 1) := by decide +kernel
theorem dX6_weight_5 : decode cX6_weight 5 = .ok (.iload_n 2, 1) := by decide +kernel
theorem dX6_weight_6 : decode cX6_weight 6 = .ok (.bipush 9, 2) := by decide +kernel
theorem dX6_weight_8 : decode cX6_weight 8 = .ok (.invokevirtual 76, 3) := by decide +kernel
theorem dX6_weight_11 : decode cX6_weight 11 = .ok (.ireturn, 1) := by decide +kernel
theorem dX6_bribe_0 : decode cX6_bribe 0 = .ok (.aload_n 0, 1) := by decide +kernel
theorem dX6_bribe_1 : decode cX6_bribe 1 = .ok (.sipush 492, 3) := by decide +kernel
theorem dX6_bribe_4 : decode cX6_bribe 4 = .ok (.iload_n 1, 1) := by decide +kernel
theorem dX6_bribe_5 : decode cX6_bribe 5 = .ok (.iload_n 2, 1) := by decide +kernel
theorem dX6_bribe_6 : decode cX6_bribe 6 = .ok (.sipush 500, 3) := by decide +kernel
theorem dX6_bribe_9 : decode cX6_bribe 9 = .ok (.invokevirtual 76, 3) := by decide +kernel
theorem dX6_bribe_12 : decode cX6_bribe 12 = .ok (.ireturn, 1) := by decide +kernel
theorem dX6_want_0 : decode cX6_want 0 = .ok (.iload_n 1, 1) := by decide +kernel
theorem dX6_want_1 : decode cX6_want 1 = .ok (.iconst 1, 1) := by decide +kernel
theorem dX6_want_2 : decode cX6_want 2 = .ok (.if_icmp .lt 9, 3) := by decide +kernel
theorem dX6_want_5 : decode cX6_want 5 = .ok (.iload_n 1, 1) := by decide +kernel
theorem dX6_want_6 : decode cX6_want 6 = .ok (.bipush 10, 2) := by decide +kernel
theorem dX6_want_8 : decode cX6_want 8 = .ok (.if_icmp .le 6, 3) := by decide +kernel
theorem dX6_want_11 : decode cX6_want 11 = .ok (.bipush (-2), 2) := by decide +kernel
theorem dX6_want_13 : decode cX6_want 13 = .ok (.ireturn, 1) := by decide +kernel
theorem dX6_want_14 : decode cX6_want 14 = .ok (.aload_n 0, 1) := by decide +kernel
theorem dX6_want_15 : decode cX6_want 15 = .ok (.getfield 7, 3) := by decide +kernel
theorem dX6_want_18 : decode cX6_want 18 = .ok (.sipush 559, 3) := by decide +kernel
theorem dX6_want_21 : decode cX6_want 21 = .ok (.iaload, 1) := by decide +kernel
theorem dX6_want_22 : decode cX6_want 22 = .ok (.iconst 1, 1) := by decide +kernel
theorem dX6_want_23 : decode cX6_want 23 = .ok (.if_icmp .ne 6, 3) := by decide +kernel
theorem dX6_want_26 : decode cX6_want 26 = .ok (.bipush (-4), 2) := by decide +kernel
theorem dX6_want_28 : decode cX6_want 28 = .ok (.ireturn, 1) := by decide +kernel
theorem dX6_want_29 : decode cX6_want 29 = .ok (.aload_n 0, 1) := by decide +kernel
theorem dX6_want_30 : decode cX6_want 30 = .ok (.getfield 7, 3) := by decide +kernel
theorem dX6_want_33 : decode cX6_want 33 = .ok (.sipush 558, 3) := by decide +kernel
theorem dX6_want_36 : decode cX6_want 36 = .ok (.iaload, 1) := by decide +kernel
theorem dX6_want_37 : decode cX6_want 37 = .ok (.istore_n 2, 1) := by decide +kernel
theorem dX6_want_38 : decode cX6_want 38 = .ok (.iload_n 2, 1) := by decide +kernel
theorem dX6_want_39 : decode cX6_want 39 = .ok (.iload_n 1, 1) := by decide +kernel
theorem dX6_want_40 : decode cX6_want 40 = .ok (.if_icmp .ne 6, 3) := by decide +kernel
theorem dX6_want_43 : decode cX6_want 43 = .ok (.bipush (-5), 2) := by decide +kernel
theorem dX6_want_45 : decode cX6_want 45 = .ok (.ireturn, 1) := by decide +kernel
theorem dX6_want_46 : decode cX6_want 46 = .ok (.aload_n 0, 1) := by decide +kernel
theorem dX6_want_47 : decode cX6_want 47 = .ok (.invokevirtual 44, 3) := by decide +kernel
theorem dX6_want_50 : decode cX6_want 50 = .ok (.aload_n 0, 1) := by decide +kernel
theorem dX6_want_51 : decode cX6_want 51 = .ok (.getfield 7, 3) := by decide +kernel
theorem dX6_want_54 : decode cX6_want 54 = .ok (.sipush 558, 3) := by decide +kernel
theorem dX6_want_57 : decode cX6_want 57 = .ok (.iload_n 1, 1) := by decide +kernel
theorem dX6_want_58 : decode cX6_want 58 = .ok (.iastore, 1) := by decide +kernel
theorem dX6_want_59 : decode cX6_want 59 = .ok (.iload_n 2, 1) := by decide +kernel
theorem dX6_want_60 : decode cX6_want 60 = .ok (.ireturn, 1) := by decide +kernel
theorem dX6_isAsked_0 : decode cX6_isAsked 0 = .ok (.aload_n 0, 1) := by decide +kernel
theorem dX6_isAsked_1 : decode cX6_isAsked 1 = .ok (.getfield 7, 3) := by decide +kernel
theorem dX6_isAsked_4 : decode cX6_isAsked 4 = .ok (.sipush 486, 3) := by decide +kernel
theorem dX6_isAsked_7 : decode cX6_isAsked 7 = .ok (.iload_n 1, 1) := by decide +kernel
theorem dX6_isAsked_8 : decode cX6_isAsked 8 = .ok (.iadd, 1) := by decide +kernel
theorem dX6_isAsked_9 : decode cX6_isAsked 9 = .ok (.iaload, 1) := by decide +kernel
theorem dX6_isAsked_10 : decode cX6_isAsked 10 = .ok (.ifCond .le 7, 3) := by decide +kernel
theorem dX6_isAsked_13 : decode cX6_isAsked 13 = .ok (.iconst 1, 1) := by decide +kernel
theorem dX6_isAsked_14 : decode cX6_isAsked 14 = .ok (.goto 4, 3) := by decide +kernel
theorem dX6_isAsked_17 : decode cX6_isAsked 17 = .ok (.iconst 0, 1) := by decide +kernel
theorem dX6_isAsked_18 : decode cX6_isAsked 18 = .ok (.ireturn, 1) := by decide +kernel
theorem dX6_asked_0 : decode cX6_asked 0 = .ok (.iconst 0, 1) := by decide +kernel
theorem dX6_asked_1 : decode cX6_asked 1 = .ok (.istore_n 1, 1) := by decide +kernel
theorem dX6_asked_2 : decode cX6_asked 2 = .ok (.iconst 0, 1) := by decide +kernel
theorem dX6_asked_3 : decode cX6_asked 3 = .ok (.istore_n 2, 1) := by decide +kernel
theorem dX6_asked_4 : decode cX6_asked 4 = .ok (.iload_n 2, 1) := by decide +kernel
theorem dX6_asked_5 : decode cX6_asked 5 = .ok (.bipush 6, 2) := by decide +kernel
theorem dX6_asked_7 : decode cX6_asked 7 = .ok (.if_icmp .ge 25, 3) := by decide +kernel
theorem dX6_asked_10 : decode cX6_asked 10 = .ok (.iload_n 1, 1) := by decide +kernel
theorem dX6_asked_11 : decode cX6_asked 11 = .ok (.aload_n 0, 1) := by decide +kernel
theorem dX6_asked_12 : decode cX6_asked 12 = .ok (.iload_n 2, 1) := by decide +kernel
theorem dX6_asked_13 : decode cX6_asked 13 = .ok (.invokevirtual 80, 3) := by decide +kernel
theorem dX6_asked_16 : decode cX6_asked 16 = .ok (.ifCond .eq 7, 3) := by decide +kernel
theorem dX6_asked_19 : decode cX6_asked 19 = .ok (.iconst 1, 1) := by decide +kernel
theorem dX6_asked_20 : decode cX6_asked 20 = .ok (.goto 4, 3) := by decide +kernel
theorem dX6_asked_23 : decode cX6_asked 23 = .ok (.iconst 0, 1) := by decide +kernel
theorem dX6_asked_24 : decode cX6_asked 24 = .ok (.iadd, 1) := by decide +kernel
theorem dX6_asked_25 : decode cX6_asked 25 = .ok (.istore_n 1, 1) := by decide +kernel
theorem dX6_asked_26 : decode cX6_asked 26 = .ok (.iinc 2 1, 3) := by decide +kernel
theorem dX6_asked_29 : decode cX6_asked 29 = .ok (.goto (-25), 3) := by decide +kernel
theorem dX6_asked_32 : decode cX6_asked 32 = .ok (.iload_n 1, 1) := by decide +kernel
theorem dX6_asked_33 : decode cX6_asked 33 = .ok (.ireturn, 1) := by decide +kernel
theorem dX6_value_0 : decode cX6_value 0 = .ok (.iconst 0, 1) := by decide +kernel
theorem dX6_value_1 : decode cX6_value 1 = .ok (.istore_n 2, 1) := by decide +kernel
theorem dX6_value_2 : decode cX6_value 2 = .ok (.iconst 0, 1) := by decide +kernel
theorem dX6_value_3 : decode cX6_value 3 = .ok (.istore_n 3, 1) := by decide +kernel
theorem dX6_value_4 : decode cX6_value 4 = .ok (.iload_n 3, 1) := by decide +kernel
theorem dX6_value_5 : decode cX6_value 5 = .ok (.bipush 6, 2) := by decide +kernel
theorem dX6_value_7 : decode cX6_value 7 = .ok (.if_icmp .ge 29, 3) := by decide +kernel
theorem dX6_value_10 : decode cX6_value 10 = .ok (.iload_n 2, 1) := by decide +kernel
theorem dX6_value_11 : decode cX6_value 11 = .ok (.aload_n 0, 1) := by decide +kernel
theorem dX6_value_12 : decode cX6_value 12 = .ok (.getfield 7, 3) := by decide +kernel
theorem dX6_value_15 : decode cX6_value 15 = .ok (.sipush 486, 3) := by decide +kernel
theorem dX6_value_18 : decode cX6_value 18 = .ok (.iload_n 3, 1) := by decide +kernel
theorem dX6_value_19 : decode cX6_value 19 = .ok (.iadd, 1) := by decide +kernel
theorem dX6_value_20 : decode cX6_value 20 = .ok (.iaload, 1) := by decide +kernel
theorem dX6_value_21 : decode cX6_value 21 = .ok (.aload_n 0, 1) := by decide +kernel
theorem dX6_value_22 : decode cX6_value 22 = .ok (.iload_n 3, 1) := by decide +kernel
theorem dX6_value_23 : decode cX6_value 23 = .ok (.iload_n 1, 1) := by decide +kernel
theorem dX6_value_24 : decode cX6_value 24 = .ok (.invokevirtual 83, 3) := by decide +kernel
theorem dX6_value_27 : decode cX6_value 27 = .ok (.imul, 1) := by decide +kernel
theorem dX6_value_28 : decode cX6_value 28 = .ok (.iadd, 1) := by decide +kernel
theorem dX6_value_29 : decode cX6_value 29 = .ok (.istore_n 2, 1) := by decide +kernel
theorem dX6_value_30 : decode cX6_value 30 = .ok (.iinc 3 1, 3) := by decide +kernel
theorem dX6_value_33 : decode cX6_value 33 = .ok (.goto (-29), 3) := by decide +kernel
theorem dX6_value_36 : decode cX6_value 36 = .ok (.iload_n 2, 1) := by decide +kernel
theorem dX6_value_37 : decode cX6_value 37 = .ok (.ireturn, 1) := by decide +kernel
theorem dX6_mayBeWanted_0 : decode cX6_mayBeWanted 0 = .ok (.aload_n 0, 1) := by decide +kernel
theorem dX6_mayBeWanted_1 : decode cX6_mayBeWanted 1 = .ok (.getfield 7, 3) := by decide +kernel
theorem dX6_mayBeWanted_4 : decode cX6_mayBeWanted 4 = .ok (.sipush 498, 3) := by decide +kernel
theorem dX6_mayBeWanted_7 : decode cX6_mayBeWanted 7 = .ok (.iload_n 1, 1) := by decide +kernel
theorem dX6_mayBeWanted_8 : decode cX6_mayBeWanted 8 = .ok (.iadd, 1) := by decide +kernel
theorem dX6_mayBeWanted_9 : decode cX6_mayBeWanted 9 = .ok (.iaload, 1) := by decide +kernel
theorem dX6_mayBeWanted_10 : decode cX6_mayBeWanted 10 = .ok (.ifCond .ne 15, 3) := by decide +kernel
theorem dX6_mayBeWanted_13 : decode cX6_mayBeWanted 13 = .ok (.aload_n 0, 1) := by decide +kernel
theorem dX6_mayBeWanted_14 : decode cX6_mayBeWanted 14 = .ok (.iload_n 1, 1) := by decide +kernel
theorem dX6_mayBeWanted_15 : decode cX6_mayBeWanted 15 = .ok (.invokevirtual 86, 3) := by decide +kernel
theorem dX6_mayBeWanted_18 : decode cX6_mayBeWanted 18 = .ok (.ifCond .le 7, 3) := by decide +kernel
theorem dX6_mayBeWanted_21 : decode cX6_mayBeWanted 21 = .ok (.iconst 1, 1) := by decide +kernel
theorem dX6_mayBeWanted_22 : decode cX6_mayBeWanted 22 = .ok (.goto 4, 3) := by decide +kernel
theorem dX6_mayBeWanted_25 : decode cX6_mayBeWanted 25 = .ok (.iconst 0, 1) := by decide +kernel
theorem dX6_mayBeWanted_26 : decode cX6_mayBeWanted 26 = .ok (.ireturn, 1) := by decide +kernel
theorem dX6_wantedPlace_0 : decode cX6_wantedPlace 0 = .ok (.aload_n 0, 1) := by decide +kernel
theorem dX6_wantedPlace_1 : decode cX6_wantedPlace 1 = .ok (.iload_n 1, 1) := by decide +kernel
theorem dX6_wantedPlace_2 : decode cX6_wantedPlace 2 = .ok (.invokevirtual 89, 3) := by decide +kernel
theorem dX6_wantedPlace_5 : decode cX6_wantedPlace 5 = .ok (.ifCond .ne 5, 3) := by decide +kernel
theorem dX6_wantedPlace_8 : decode cX6_wantedPlace 8 = .ok (.iconst (-1), 1) := by decide +kernel
theorem dX6_wantedPlace_9 : decode cX6_wantedPlace 9 = .ok (.ireturn, 1) := by decide +kernel
theorem dX6_wantedPlace_10 : decode cX6_wantedPlace 10 = .ok (.aload_n 0, 1) := by decide +kernel
theorem dX6_wantedPlace_11 : decode cX6_wantedPlace 11 = .ok (.iload_n 1, 1) := by decide +kernel
theorem dX6_wantedPlace_12 : decode cX6_wantedPlace 12 = .ok (.invokevirtual 86, 3) := by decide +kernel
theorem dX6_wantedPlace_15 : decode cX6_wantedPlace 15 = .ok (.istore_n 2, 1) := by decide +kernel
theorem dX6_wantedPlace_16 : decode cX6_wantedPlace 16 = .ok (.iconst 0, 1) := by decide +kernel
theorem dX6_wantedPlace_17 : decode cX6_wantedPlace 17 = .ok (.istore_n 3, 1) := by decide +kernel
theorem dX6_wantedPlace_18 : decode cX6_wantedPlace 18 = .ok (.iconst 0, 1) := by decide +kernel
theorem dX6_wantedPlace_19 : decode cX6_wantedPlace 19 = .ok (.istore 4, 2) := by decide +kernel
theorem dX6_wantedPlace_21 : decode cX6_wantedPlace 21 = .ok (.iload 4, 2) := by decide +kernel
theorem dX6_wantedPlace_23 : decode cX6_wantedPlace 23 = .ok (.bipush 60, 2) := by decide +kernel
theorem dX6_wantedPlace_25 : decode cX6_wantedPlace 25 = .ok (.if_icmp .ge 52, 3) := by decide +kernel
theorem dX6_wantedPlace_28 : decode cX6_wantedPlace 28 = .ok (.aload_n 0, 1) := by decide +kernel
theorem dX6_wantedPlace_29 : decode cX6_wantedPlace 29 = .ok (.iload 4, 2) := by decide +kernel
theorem dX6_wantedPlace_31 : decode cX6_wantedPlace 31 = .ok (.invokevirtual 89, 3) := by decide +kernel
theorem dX6_wantedPlace_34 : decode cX6_wantedPlace 34 = .ok (.ifCond .eq 37, 3) := by decide +kernel
theorem dX6_wantedPlace_37 : decode cX6_wantedPlace 37 = .ok (.aload_n 0, 1) := by decide +kernel
theorem dX6_wantedPlace_38 : decode cX6_wantedPlace 38 = .ok (.iload 4, 2) := by decide +kernel
theorem dX6_wantedPlace_40 : decode cX6_wantedPlace 40 = .ok (.invokevirtual 86, 3) := by decide +kernel
theorem dX6_wantedPlace_43 : decode cX6_wantedPlace 43 = .ok (.istore 5, 2) := by decide +kernel
theorem dX6_wantedPlace_45 : decode cX6_wantedPlace 45 = .ok (.iload_n 3, 1) := by decide +kernel
theorem dX6_wantedPlace_46 : decode cX6_wantedPlace 46 = .ok (.iload 5, 2) := by decide +kernel
theorem dX6_wantedPlace_48 : decode cX6_wantedPlace 48 = .ok (.iload_n 2, 1) := by decide +kernel
theorem dX6_wantedPlace_49 : decode cX6_wantedPlace 49 = .ok (.if_icmp .gt 15, 3) := by decide +kernel
theorem dX6_wantedPlace_52 : decode cX6_wantedPlace 52 = .ok (.iload 5, 2) := by decide +kernel
theorem dX6_wantedPlace_54 : decode cX6_wantedPlace 54 = .ok (.iload_n 2, 1) := by decide +kernel
theorem dX6_wantedPlace_55 : decode cX6_wantedPlace 55 = .ok (.if_icmp .ne 13, 3) := by decide +kernel
theorem dX6_wantedPlace_58 : decode cX6_wantedPlace 58 = .ok (.iload 4, 2) := by decide +kernel
theorem dX6_wantedPlace_60 : decode cX6_wantedPlace 60 = .ok (.iload_n 1, 1) := by decide +kernel
theorem dX6_wantedPlace_61 : decode cX6_wantedPlace 61 = .ok (.if_icmp .ge 7, 3) := by decide +kernel
theorem dX6_wantedPlace_64 : decode cX6_wantedPlace 64 = .ok (.iconst 1, 1) := by decide +kernel
theorem dX6_wantedPlace_65 : decode cX6_wantedPlace 65 = .ok (.goto 4, 3) := by decide +kernel
theorem dX6_wantedPlace_68 : decode cX6_wantedPlace 68 = .ok (.iconst 0, 1) := by decide +kernel
theorem dX6_wantedPlace_69 : decode cX6_wantedPlace 69 = .ok (.iadd, 1) := by decide +kernel
theorem dX6_wantedPlace_70 : decode cX6_wantedPlace 70 = .ok (.istore_n 3, 1) := by decide +kernel
theorem dX6_wantedPlace_71 : decode cX6_wantedPlace 71 = .ok (.iinc 4 1, 3) := by decide +kernel
theorem dX6_wantedPlace_74 : decode cX6_wantedPlace 74 = .ok (.goto (-53), 3) := by decide +kernel
theorem dX6_wantedPlace_77 : decode cX6_wantedPlace 77 = .ok (.iload_n 3, 1) := by decide +kernel
theorem dX6_wantedPlace_78 : decode cX6_wantedPlace 78 = .ok (.aload_n 0, 1) := by decide +kernel
theorem dX6_wantedPlace_79 : decode cX6_wantedPlace 79 = .ok (.getfield 7, 3) := by decide +kernel
theorem dX6_wantedPlace_82 : decode cX6_wantedPlace 82 = .ok (.sipush 558, 3) := by decide +kernel
theorem dX6_wantedPlace_85 : decode cX6_wantedPlace 85 = .ok (.iaload, 1) := by decide +kernel
theorem dX6_wantedPlace_86 : decode cX6_wantedPlace 86 = .ok (.if_icmp .ge 7, 3) := by decide +kernel
theorem dX6_wantedPlace_89 : decode cX6_wantedPlace 89 = .ok (.iload_n 3, 1) := by decide +kernel
theorem dX6_wantedPlace_90 : decode cX6_wantedPlace 90 = .ok (.goto 4, 3) := by decide +kernel
theorem dX6_wantedPlace_93 : decode cX6_wantedPlace 93 = .ok (.iconst (-1), 1) := by decide +kernel
theorem dX6_wantedPlace_94 : decode cX6_wantedPlace 94 = .ok (.ireturn, 1) := by decide +kernel
theorem dX6_wantedMany_0 : decode cX6_wantedMany 0 = .ok (.iconst 0, 1) := by decide +kernel
theorem dX6_wantedMany_1 : decode cX6_wantedMany 1 = .ok (.istore_n 1, 1) := by decide +kernel
theorem dX6_wantedMany_2 : decode cX6_wantedMany 2 = .ok (.iconst 0, 1) := by decide +kernel
theorem dX6_wantedMany_3 : decode cX6_wantedMany 3 = .ok (.istore_n 2, 1) := by decide +kernel
theorem dX6_wantedMany_4 : decode cX6_wantedMany 4 = .ok (.iload_n 2, 1) := by decide +kernel
theorem dX6_wantedMany_5 : decode cX6_wantedMany 5 = .ok (.bipush 60, 2) := by decide +kernel
theorem dX6_wantedMany_7 : decode cX6_wantedMany 7 = .ok (.if_icmp .ge 25, 3) := by decide +kernel
theorem dX6_wantedMany_10 : decode cX6_wantedMany 10 = .ok (.iload_n 1, 1) := by decide +kernel
theorem dX6_wantedMany_11 : decode cX6_wantedMany 11 = .ok (.aload_n 0, 1) := by decide +kernel
theorem dX6_wantedMany_12 : decode cX6_wantedMany 12 = .ok (.iload_n 2, 1) := by decide +kernel
theorem dX6_wantedMany_13 : decode cX6_wantedMany 13 = .ok (.invokevirtual 89, 3) := by decide +kernel
theorem dX6_wantedMany_16 : decode cX6_wantedMany 16 = .ok (.ifCond .eq 7, 3) := by decide +kernel
theorem dX6_wantedMany_19 : decode cX6_wantedMany 19 = .ok (.iconst 1, 1) := by decide +kernel
theorem dX6_wantedMany_20 : decode cX6_wantedMany 20 = .ok (.goto 4, 3) := by decide +kernel
theorem dX6_wantedMany_23 : decode cX6_wantedMany 23 = .ok (.iconst 0, 1) := by decide +kernel
theorem dX6_wantedMany_24 : decode cX6_wantedMany 24 = .ok (.iadd, 1) := by decide +kernel
theorem dX6_wantedMany_25 : decode cX6_wantedMany 25 = .ok (.istore_n 1, 1) := by decide +kernel
theorem dX6_wantedMany_26 : decode cX6_wantedMany 26 = .ok (.iinc 2 1, 3) := by decide +kernel
theorem dX6_wantedMany_29 : decode cX6_wantedMany 29 = .ok (.goto (-25), 3) := by decide +kernel
theorem dX6_wantedMany_32 : decode cX6_wantedMany 32 = .ok (.iload_n 1, 1) := by decide +kernel
theorem dX6_wantedMany_33 : decode cX6_wantedMany 33 = .ok (.aload_n 0, 1) := by decide +kernel
theorem dX6_wantedMany_34 : decode cX6_wantedMany 34 = .ok (.getfield 7, 3) := by decide +kernel
theorem dX6_wantedMany_37 : decode cX6_wantedMany 37 = .ok (.sipush 558, 3) := by decide +kernel
theorem dX6_wantedMany_40 : decode cX6_wantedMany 40 = .ok (.iaload, 1) := by decide +kernel
theorem dX6_wantedMany_41 : decode cX6_wantedMany 41 = .ok (.if_icmp .ge 7, 3) := by decide +kernel
theorem dX6_wantedMany_44 : decode cX6_wantedMany 44 = .ok (.iload_n 1, 1) := by decide +kernel
theorem dX6_wantedMany_45 : decode cX6_wantedMany 45 = .ok (.goto 11, 3) := by decide +kernel
theorem dX6_wantedMany_48 : decode cX6_wantedMany 48 = .ok (.aload_n 0, 1) := by decide +kernel
theorem dX6_wantedMany_49 : decode cX6_wantedMany 49 = .ok (.getfield 7, 3) := by decide +kernel
theorem dX6_wantedMany_52 : decode cX6_wantedMany 52 = .ok (.sipush 558, 3) := by decide +kernel
theorem dX6_wantedMany_55 : decode cX6_wantedMany 55 = .ok (.iaload, 1) := by decide +kernel
theorem dX6_wantedMany_56 : decode cX6_wantedMany 56 = .ok (.ireturn, 1) := by decide +kernel
theorem dX6_wanted_0 : decode cX6_wanted 0 = .ok (.iload_n 1, 1) := by decide +kernel
theorem dX6_wanted_1 : decode cX6_wanted 1 = .ok (.ifCond .ge 6, 3) := by decide +kernel
theorem dX6_wanted_4 : decode cX6_wanted 4 = .ok (.bipush (-2), 2) := by decide +kernel
theorem dX6_wanted_6 : decode cX6_wanted 6 = .ok (.ireturn, 1) := by decide +kernel
theorem dX6_wanted_7 : decode cX6_wanted 7 = .ok (.bipush (-5), 2) := by decide +kernel
theorem dX6_wanted_9 : decode cX6_wanted 9 = .ok (.istore_n 2, 1) := by decide +kernel
theorem dX6_wanted_10 : decode cX6_wanted 10 = .ok (.iconst 0, 1) := by decide +kernel
theorem dX6_wanted_11 : decode cX6_wanted 11 = .ok (.istore_n 3, 1) := by decide +kernel
theorem dX6_wanted_12 : decode cX6_wanted 12 = .ok (.iload_n 3, 1) := by decide +kernel
theorem dX6_wanted_13 : decode cX6_wanted 13 = .ok (.bipush 60, 2) := by decide +kernel
theorem dX6_wanted_15 : decode cX6_wanted 15 = .ok (.if_icmp .ge 24, 3) := by decide +kernel
theorem dX6_wanted_18 : decode cX6_wanted 18 = .ok (.aload_n 0, 1) := by decide +kernel
theorem dX6_wanted_19 : decode cX6_wanted 19 = .ok (.iload_n 3, 1) := by decide +kernel
theorem dX6_wanted_20 : decode cX6_wanted 20 = .ok (.invokevirtual 92, 3) := by decide +kernel
theorem dX6_wanted_23 : decode cX6_wanted 23 = .ok (.iload_n 1, 1) := by decide +kernel
theorem dX6_wanted_24 : decode cX6_wanted 24 = .ok (.if_icmp .ne 7, 3) := by decide +kernel
theorem dX6_wanted_27 : decode cX6_wanted 27 = .ok (.iload_n 3, 1) := by decide +kernel
theorem dX6_wanted_28 : decode cX6_wanted 28 = .ok (.goto 4, 3) := by decide +kernel
theorem dX6_wanted_31 : decode cX6_wanted 31 = .ok (.iload_n 2, 1) := by decide +kernel
theorem dX6_wanted_32 : decode cX6_wanted 32 = .ok (.istore_n 2, 1) := by decide +kernel
theorem dX6_wanted_33 : decode cX6_wanted 33 = .ok (.iinc 3 1, 3) := by decide +kernel
theorem dX6_wanted_36 : decode cX6_wanted 36 = .ok (.goto (-24), 3) := by decide +kernel
theorem dX6_wanted_39 : decode cX6_wanted 39 = .ok (.iload_n 2, 1) := by decide +kernel
theorem dX6_wanted_40 : decode cX6_wanted 40 = .ok (.ireturn, 1) := by decide +kernel
theorem dX6_document_0 : decode cX6_document 0 = .ok (.iload_n 1, 1) := by decide +kernel
theorem dX6_document_1 : decode cX6_document 1 = .ok (.invokestatic 55, 3) := by decide +kernel
theorem dX6_document_4 : decode cX6_document 4 = .ok (.ifCond .ne 5, 3) := by decide +kernel
theorem dX6_document_7 : decode cX6_document 7 = .ok (.iconst (-1), 1) := by decide +kernel
theorem dX6_document_8 : decode cX6_document 8 = .ok (.ireturn, 1) := by decide +kernel
theorem dX6_document_9 : decode cX6_document 9 = .ok (.iload_n 2, 1) := by decide +kernel
theorem dX6_document_10 : decode cX6_document 10 = .ok (.ifCond .lt 8, 3) := by decide +kernel
theorem dX6_document_13 : decode cX6_document 13 = .ok (.iload_n 2, 1) := by decide +kernel
theorem dX6_document_14 : decode cX6_document 14 = .ok (.iconst 3, 1) := by decide +kernel
theorem dX6_document_15 : decode cX6_document 15 = .ok (.if_icmp .le 6, 3) := by decide +kernel
theorem dX6_document_18 : decode cX6_document 18 = .ok (.bipush (-2), 2) := by decide +kernel
theorem dX6_document_20 : decode cX6_document 20 = .ok (.ireturn, 1) := by decide +kernel
theorem dX6_document_21 : decode cX6_document 21 = .ok (.iload_n 2, 1) := by decide +kernel
theorem dX6_document_22 : decode cX6_document 22 = .ok (.ifCond .ne 14, 3) := by decide +kernel
theorem dX6_document_25 : decode cX6_document 25 = .ok (.aload_n 0, 1) := by decide +kernel
theorem dX6_document_26 : decode cX6_document 26 = .ok (.getfield 7, 3) := by decide +kernel
theorem dX6_document_29 : decode cX6_document 29 = .ok (.sipush 498, 3) := by decide +kernel
theorem dX6_document_32 : decode cX6_document 32 = .ok (.iload_n 1, 1) := by decide +kernel
theorem dX6_document_33 : decode cX6_document 33 = .ok (.iadd, 1) := by decide +kernel
theorem dX6_document_34 : decode cX6_document 34 = .ok (.iaload, 1) := by decide +kernel
theorem dX6_document_35 : decode cX6_document 35 = .ok (.ireturn, 1) := by decide +kernel
theorem dX6_document_36 : decode cX6_document 36 = .ok (.iload_n 2, 1) := by decide +kernel
theorem dX6_document_37 : decode cX6_document 37 = .ok (.iconst 1, 1) := by decide +kernel
theorem dX6_document_38 : decode cX6_document 38 = .ok (.if_icmp .ne 9, 3) := by decide +kernel
theorem dX6_document_41 : decode cX6_document 41 = .ok (.aload_n 0, 1) := by decide +kernel
theorem dX6_document_42 : decode cX6_document 42 = .ok (.iload_n 1, 1) := by decide +kernel
theorem dX6_document_43 : decode cX6_document 43 = .ok (.invokevirtual 86, 3) := by decide +kernel
theorem dX6_document_46 : decode cX6_document 46 = .ok (.ireturn, 1) := by decide +kernel
theorem dX6_document_47 : decode cX6_document 47 = .ok (.iload_n 2, 1) := by decide +kernel
theorem dX6_document_48 : decode cX6_document 48 = .ok (.iconst 2, 1) := by decide +kernel
theorem dX6_document_49 : decode cX6_document 49 = .ok (.if_icmp .ne 9, 3) := by decide +kernel
theorem dX6_document_52 : decode cX6_document 52 = .ok (.aload_n 0, 1) := by decide +kernel
theorem dX6_document_53 : decode cX6_document 53 = .ok (.iload_n 1, 1) := by decide +kernel
theorem dX6_document_54 : decode cX6_document 54 = .ok (.invokevirtual 66, 3) := by decide +kernel
theorem dX6_document_57 : decode cX6_document 57 = .ok (.ireturn, 1) := by decide +kernel
theorem dX6_document_58 : decode cX6_document 58 = .ok (.aload_n 0, 1) := by decide +kernel
theorem dX6_document_59 : decode cX6_document 59 = .ok (.iload_n 1, 1) := by decide +kernel
theorem dX6_document_60 : decode cX6_document 60 = .ok (.invokevirtual 92, 3) := by decide +kernel
theorem dX6_document_63 : decode cX6_document 63 = .ok (.istore_n 3, 1) := by decide +kernel
theorem dX6_document_64 : decode cX6_document 64 = .ok (.iload_n 3, 1) := by decide +kernel
theorem dX6_document_65 : decode cX6_document 65 = .ok (.ifCond .ge 8, 3) := by decide +kernel
theorem dX6_document_68 : decode cX6_document 68 = .ok (.bipush (-5), 2) := by decide +kernel
theorem dX6_document_70 : decode cX6_document 70 = .ok (.goto 4, 3) := by decide +kernel
theorem dX6_document_73 : decode cX6_document 73 = .ok (.iload_n 3, 1) := by decide +kernel
theorem dX6_document_74 : decode cX6_document 74 = .ok (.ireturn, 1) := by decide +kernel
theorem dX6_list_0 : decode cX6_list 0 = .ok (.iload_n 1, 1) := by decide +kernel
theorem dX6_list_1 : decode cX6_list 1 = .ok (.invokestatic 51, 3) := by decide +kernel
theorem dX6_list_4 : decode cX6_list 4 = .ok (.ifCond .ne 5, 3) := by decide +kernel
theorem dX6_list_7 : decode cX6_list 7 = .ok (.iconst (-1), 1) := by decide +kernel
theorem dX6_list_8 : decode cX6_list 8 = .ok (.ireturn, 1) := by decide +kernel
theorem dX6_list_9 : decode cX6_list 9 = .ok (.iload_n 2, 1) := by decide +kernel
theorem dX6_list_10 : decode cX6_list 10 = .ok (.ifCond .lt 8, 3) := by decide +kernel
theorem dX6_list_13 : decode cX6_list 13 = .ok (.iload_n 2, 1) := by decide +kernel
theorem dX6_list_14 : decode cX6_list 14 = .ok (.iconst 4, 1) := by decide +kernel
theorem dX6_list_15 : decode cX6_list 15 = .ok (.if_icmp .le 6, 3) := by decide +kernel
theorem dX6_list_18 : decode cX6_list 18 = .ok (.bipush (-2), 2) := by decide +kernel
theorem dX6_list_20 : decode cX6_list 20 = .ok (.ireturn, 1) := by decide +kernel
theorem dX6_list_21 : decode cX6_list 21 = .ok (.iload_n 2, 1) := by decide +kernel
theorem dX6_list_22 : decode cX6_list 22 = .ok (.iconst 3, 1) := by decide +kernel
theorem dX6_list_23 : decode cX6_list 23 = .ok (.if_icmp .ge 35, 3) := by decide +kernel
theorem dX6_list_26 : decode cX6_list 26 = .ok (.aload_n 0, 1) := by decide +kernel
theorem dX6_list_27 : decode cX6_list 27 = .ok (.getfield 7, 3) := by decide +kernel
theorem dX6_list_30 : decode cX6_list 30 = .ok (.iload_n 2, 1) := by decide +kernel
theorem dX6_list_31 : decode cX6_list 31 = .ok (.ifCond .ne 9, 3) := by decide +kernel
theorem dX6_list_34 : decode cX6_list 34 = .ok (.sipush 480, 3) := by decide +kernel
theorem dX6_list_37 : decode cX6_list 37 = .ok (.goto 17, 3) := by decide +kernel
theorem dX6_list_40 : decode cX6_list 40 = .ok (.iload_n 2, 1) := by decide +kernel
theorem dX6_list_41 : decode cX6_list 41 = .ok (.iconst 1, 1) := by decide +kernel
theorem dX6_list_42 : decode cX6_list 42 = .ok (.if_icmp .ne 9, 3) := by decide +kernel
theorem dX6_list_45 : decode cX6_list 45 = .ok (.sipush 486, 3) := by decide +kernel
theorem dX6_list_48 : decode cX6_list 48 = .ok (.goto 6, 3) := by decide +kernel
theorem dX6_list_51 : decode cX6_list 51 = .ok (.sipush 492, 3) := by decide +kernel
theorem dX6_list_54 : decode cX6_list 54 = .ok (.iload_n 1, 1) := by decide +kernel
theorem dX6_list_55 : decode cX6_list 55 = .ok (.iadd, 1) := by decide +kernel
theorem dX6_list_56 : decode cX6_list 56 = .ok (.iaload, 1) := by decide +kernel
theorem dX6_list_57 : decode cX6_list 57 = .ok (.ireturn, 1) := by decide +kernel
theorem dX6_list_58 : decode cX6_list 58 = .ok (.iload_n 2, 1) := by decide +kernel
theorem dX6_list_59 : decode cX6_list 59 = .ok (.iconst 3, 1) := by decide +kernel
theorem dX6_list_60 : decode cX6_list 60 = .ok (.if_icmp .ne 34, 3) := by decide +kernel
theorem dX6_list_63 : decode cX6_list 63 = .ok (.aload_n 0, 1) := by decide +kernel
theorem dX6_list_64 : decode cX6_list 64 = .ok (.getfield 7, 3) := by decide +kernel
theorem dX6_list_67 : decode cX6_list 67 = .ok (.sipush 480, 3) := by decide +kernel
theorem dX6_list_70 : decode cX6_list 70 = .ok (.iload_n 1, 1) := by decide +kernel
theorem dX6_list_71 : decode cX6_list 71 = .ok (.iadd, 1) := by decide +kernel
theorem dX6_list_72 : decode cX6_list 72 = .ok (.iaload, 1) := by decide +kernel
theorem dX6_list_73 : decode cX6_list 73 = .ok (.ifCond .ne 7, 3) := by decide +kernel
theorem dX6_list_76 : decode cX6_list 76 = .ok (.iconst 0, 1) := by decide +kernel
theorem dX6_list_77 : decode cX6_list 77 = .ok (.goto 16, 3) := by decide +kernel
theorem dX6_list_80 : decode cX6_list 80 = .ok (.aload_n 0, 1) := by decide +kernel
theorem dX6_list_81 : decode cX6_list 81 = .ok (.getfield 7, 3) := by decide +kernel
theorem dX6_list_84 : decode cX6_list 84 = .ok (.sipush 240, 3) := by decide +kernel
theorem dX6_list_87 : decode cX6_list 87 = .ok (.bipush 40, 2) := by decide +kernel
theorem dX6_list_89 : decode cX6_list 89 = .ok (.iload_n 1, 1) := by decide +kernel
theorem dX6_list_90 : decode cX6_list 90 = .ok (.imul, 1) := by decide +kernel
theorem dX6_list_91 : decode cX6_list 91 = .ok (.iadd, 1) := by decide +kernel
theorem dX6_list_92 : decode cX6_list 92 = .ok (.iaload, 1) := by decide +kernel
theorem dX6_list_93 : decode cX6_list 93 = .ok (.ireturn, 1) := by decide +kernel
theorem dX6_list_94 : decode cX6_list 94 = .ok (.iconst 0, 1) := by decide +kernel
theorem dX6_list_95 : decode cX6_list 95 = .ok (.istore_n 3, 1) := by decide +kernel
theorem dX6_list_96 : decode cX6_list 96 = .ok (.iconst 0, 1) := by decide +kernel
theorem dX6_list_97 : decode cX6_list 97 = .ok (.istore 4, 2) := by decide +kernel
theorem dX6_list_99 : decode cX6_list 99 = .ok (.iload 4, 2) := by decide +kernel
theorem dX6_list_101 : decode cX6_list 101 = .ok (.aload_n 0, 1) := by decide +kernel
theorem dX6_list_102 : decode cX6_list 102 = .ok (.getfield 7, 3) := by decide +kernel
theorem dX6_list_105 : decode cX6_list 105 = .ok (.sipush 480, 3) := by decide +kernel
theorem dX6_list_108 : decode cX6_list 108 = .ok (.iload_n 1, 1) := by decide +kernel
theorem dX6_list_109 : decode cX6_list 109 = .ok (.iadd, 1) := by decide +kernel
theorem dX6_list_110 : decode cX6_list 110 = .ok (.iaload, 1) := by decide +kernel
theorem dX6_list_111 : decode cX6_list 111 = .ok (.if_icmp .ge 35, 3) := by decide +kernel
theorem dX6_list_114 : decode cX6_list 114 = .ok (.iload_n 3, 1) := by decide +kernel
theorem dX6_list_115 : decode cX6_list 115 = .ok (.aload_n 0, 1) := by decide +kernel
theorem dX6_list_116 : decode cX6_list 116 = .ok (.getfield 7, 3) := by decide +kernel
theorem dX6_list_119 : decode cX6_list 119 = .ok (.sipush 498, 3) := by decide +kernel
theorem dX6_list_122 : decode cX6_list 122 = .ok (.aload_n 0, 1) := by decide +kernel
theorem dX6_list_123 : decode cX6_list 123 = .ok (.getfield 7, 3) := by decide +kernel
theorem dX6_list_126 : decode cX6_list 126 = .ok (.iconst 0, 1) := by decide +kernel
theorem dX6_list_127 : decode cX6_list 127 = .ok (.bipush 40, 2) := by decide +kernel
theorem dX6_list_129 : decode cX6_list 129 = .ok (.iload_n 1, 1) := by decide +kernel
theorem dX6_list_130 : decode cX6_list 130 = .ok (.imul, 1) := by decide +kernel
theorem dX6_list_131 : decode cX6_list 131 = .ok (.iadd, 1) := by decide +kernel
theorem dX6_list_132 : decode cX6_list 132 = .ok (.iload 4, 2) := by decide +kernel
theorem dX6_list_134 : decode cX6_list 134 = .ok (.iadd, 1) := by decide +kernel
theorem dX6_list_135 : decode cX6_list 135 = .ok (.iaload, 1) := by decide +kernel
theorem dX6_list_136 : decode cX6_list 136 = .ok (.iadd, 1) := by decide +kernel
theorem dX6_list_137 : decode cX6_list 137 = .ok (.iaload, 1) := by decide +kernel
theorem dX6_list_138 : decode cX6_list 138 = .ok (.iadd, 1) := by decide +kernel
theorem dX6_list_139 : decode cX6_list 139 = .ok (.istore_n 3, 1) := by decide +kernel
theorem dX6_list_140 : decode cX6_list 140 = .ok (.iinc 4 1, 3) := by decide +kernel
theorem dX6_list_143 : decode cX6_list 143 = .ok (.goto (-44), 3) := by decide +kernel
theorem dX6_list_146 : decode cX6_list 146 = .ok (.iload_n 3, 1) := by decide +kernel
theorem dX6_list_147 : decode cX6_list 147 = .ok (.ireturn, 1) := by decide +kernel
theorem dX6_entry_0 : decode cX6_entry 0 = .ok (.iload_n 1, 1) := by decide +kernel
theorem dX6_entry_1 : decode cX6_entry 1 = .ok (.invokestatic 51, 3) := by decide +kernel
theorem dX6_entry_4 : decode cX6_entry 4 = .ok (.ifCond .ne 5, 3) := by decide +kernel
theorem dX6_entry_7 : decode cX6_entry 7 = .ok (.iconst (-1), 1) := by decide +kernel
theorem dX6_entry_8 : decode cX6_entry 8 = .ok (.ireturn, 1) := by decide +kernel
theorem dX6_entry_9 : decode cX6_entry 9 = .ok (.iload_n 2, 1) := by decide +kernel
theorem dX6_entry_10 : decode cX6_entry 10 = .ok (.ifCond .lt 12, 3) := by decide +kernel
theorem dX6_entry_13 : decode cX6_entry 13 = .ok (.iload_n 3, 1) := by decide +kernel
theorem dX6_entry_14 : decode cX6_entry 14 = .ok (.ifCond .lt 8, 3) := by decide +kernel
theorem dX6_entry_17 : decode cX6_entry 17 = .ok (.iload_n 3, 1) := by decide +kernel
theorem dX6_entry_18 : decode cX6_entry 18 = .ok (.iconst 1, 1) := by decide +kernel
theorem dX6_entry_19 : decode cX6_entry 19 = .ok (.if_icmp .le 6, 3) := by decide +kernel
theorem dX6_entry_22 : decode cX6_entry 22 = .ok (.bipush (-2), 2) := by decide +kernel
theorem dX6_entry_24 : decode cX6_entry 24 = .ok (.ireturn, 1) := by decide +kernel
theorem dX6_entry_25 : decode cX6_entry 25 = .ok (.iload_n 2, 1) := by decide +kernel
theorem dX6_entry_26 : decode cX6_entry 26 = .ok (.aload_n 0, 1) := by decide +kernel
theorem dX6_entry_27 : decode cX6_entry 27 = .ok (.getfield 7, 3) := by decide +kernel
theorem dX6_entry_30 : decode cX6_entry 30 = .ok (.sipush 480, 3) := by decide +kernel
theorem dX6_entry_33 : decode cX6_entry 33 = .ok (.iload_n 1, 1) := by decide +kernel
theorem dX6_entry_34 : decode cX6_entry 34 = .ok (.iadd, 1) := by decide +kernel
theorem dX6_entry_35 : decode cX6_entry 35 = .ok (.iaload, 1) := by decide +kernel
theorem dX6_entry_36 : decode cX6_entry 36 = .ok (.if_icmp .lt 6, 3) := by decide +kernel
theorem dX6_entry_39 : decode cX6_entry 39 = .ok (.bipush (-5), 2) := by decide +kernel
theorem dX6_entry_41 : decode cX6_entry 41 = .ok (.ireturn, 1) := by decide +kernel
theorem dX6_entry_42 : decode cX6_entry 42 = .ok (.aload_n 0, 1) := by decide +kernel
theorem dX6_entry_43 : decode cX6_entry 43 = .ok (.getfield 7, 3) := by decide +kernel
theorem dX6_entry_46 : decode cX6_entry 46 = .ok (.iload_n 3, 1) := by decide +kernel
theorem dX6_entry_47 : decode cX6_entry 47 = .ok (.ifCond .ne 7, 3) := by decide +kernel
theorem dX6_entry_50 : decode cX6_entry 50 = .ok (.iconst 0, 1) := by decide +kernel
theorem dX6_entry_51 : decode cX6_entry 51 = .ok (.goto 6, 3) := by decide +kernel
theorem dX6_entry_54 : decode cX6_entry 54 = .ok (.sipush 240, 3) := by decide +kernel
theorem dX6_entry_57 : decode cX6_entry 57 = .ok (.bipush 40, 2) := by decide +kernel
theorem dX6_entry_59 : decode cX6_entry 59 = .ok (.iload_n 1, 1) := by decide +kernel
theorem dX6_entry_60 : decode cX6_entry 60 = .ok (.imul, 1) := by decide +kernel
theorem dX6_entry_61 : decode cX6_entry 61 = .ok (.iadd, 1) := by decide +kernel
theorem dX6_entry_62 : decode cX6_entry 62 = .ok (.iload_n 2, 1) := by decide +kernel
theorem dX6_entry_63 : decode cX6_entry 63 = .ok (.iadd, 1) := by decide +kernel
theorem dX6_entry_64 : decode cX6_entry 64 = .ok (.iaload, 1) := by decide +kernel
theorem dX6_entry_65 : decode cX6_entry 65 = .ok (.ireturn, 1) := by decide +kernel
theorem dX6_left_0 : decode cX6_left 0 = .ok (.aload_n 0, 1) := by decide +kernel
theorem dX6_left_1 : decode cX6_left 1 = .ok (.getfield 7, 3) := by decide +kernel
theorem dX6_left_4 : decode cX6_left 4 = .ok (.sipush 480, 3) := by decide +kernel
theorem dX6_left_7 : decode cX6_left 7 = .ok (.iload_n 1, 1) := by decide +kernel
theorem dX6_left_8 : decode cX6_left 8 = .ok (.iadd, 1) := by decide +kernel
theorem dX6_left_9 : decode cX6_left 9 = .ok (.iaload, 1) := by decide +kernel
theorem dX6_left_10 : decode cX6_left 10 = .ok (.aload_n 0, 1) := by decide +kernel
theorem dX6_left_11 : decode cX6_left 11 = .ok (.getfield 7, 3) := by decide +kernel
theorem dX6_left_14 : decode cX6_left 14 = .ok (.sipush 568, 3) := by decide +kernel
theorem dX6_left_17 : decode cX6_left 17 = .ok (.iload_n 1, 1) := by decide +kernel
theorem dX6_left_18 : decode cX6_left 18 = .ok (.iadd, 1) := by decide +kernel
theorem dX6_left_19 : decode cX6_left 19 = .ok (.iaload, 1) := by decide +kernel
theorem dX6_left_20 : decode cX6_left 20 = .ok (.isub, 1) := by decide +kernel
theorem dX6_left_21 : decode cX6_left 21 = .ok (.ireturn, 1) := by decide +kernel
theorem dX6_canBeRead_0 : decode cX6_canBeRead 0 = .ok (.aload_n 0, 1) := by decide +kernel
theorem dX6_canBeRead_1 : decode cX6_canBeRead 1 = .ok (.iload_n 1, 1) := by decide +kernel
theorem dX6_canBeRead_2 : decode cX6_canBeRead 2 = .ok (.invokevirtual 80, 3) := by decide +kernel
theorem dX6_canBeRead_5 : decode cX6_canBeRead 5 = .ok (.ifCond .eq 15, 3) := by decide +kernel
theorem dX6_canBeRead_8 : decode cX6_canBeRead 8 = .ok (.aload_n 0, 1) := by decide +kernel
theorem dX6_canBeRead_9 : decode cX6_canBeRead 9 = .ok (.iload_n 1, 1) := by decide +kernel
theorem dX6_canBeRead_10 : decode cX6_canBeRead 10 = .ok (.invokevirtual 95, 3) := by decide +kernel
theorem dX6_canBeRead_13 : decode cX6_canBeRead 13 = .ok (.ifCond .le 7, 3) := by decide +kernel
theorem dX6_canBeRead_16 : decode cX6_canBeRead 16 = .ok (.iconst 1, 1) := by decide +kernel
theorem dX6_canBeRead_17 : decode cX6_canBeRead 17 = .ok (.goto 4, 3) := by decide +kernel
theorem dX6_canBeRead_20 : decode cX6_canBeRead 20 = .ok (.iconst 0, 1) := by decide +kernel
theorem dX6_canBeRead_21 : decode cX6_canBeRead 21 = .ok (.ireturn, 1) := by decide +kernel
theorem dX6_bound_0 : decode cX6_bound 0 = .ok (.aload_n 0, 1) := by decide +kernel
theorem dX6_bound_1 : decode cX6_bound 1 = .ok (.iload_n 1, 1) := by decide +kernel
theorem dX6_bound_2 : decode cX6_bound 2 = .ok (.invokevirtual 95, 3) := by decide +kernel
theorem dX6_bound_5 : decode cX6_bound 5 = .ok (.ifCond .ne 7, 3) := by decide +kernel
theorem dX6_bound_8 : decode cX6_bound 8 = .ok (.iconst 0, 1) := by decide +kernel
theorem dX6_bound_9 : decode cX6_bound 9 = .ok (.goto 27, 3) := by decide +kernel
theorem dX6_bound_12 : decode cX6_bound 12 = .ok (.aload_n 0, 1) := by decide +kernel
theorem dX6_bound_13 : decode cX6_bound 13 = .ok (.getfield 7, 3) := by decide +kernel
theorem dX6_bound_16 : decode cX6_bound 16 = .ok (.sipush 240, 3) := by decide +kernel
theorem dX6_bound_19 : decode cX6_bound 19 = .ok (.bipush 40, 2) := by decide +kernel
theorem dX6_bound_21 : decode cX6_bound 21 = .ok (.iload_n 1, 1) := by decide +kernel
theorem dX6_bound_22 : decode cX6_bound 22 = .ok (.imul, 1) := by decide +kernel
theorem dX6_bound_23 : decode cX6_bound 23 = .ok (.iadd, 1) := by decide +kernel
theorem dX6_bound_24 : decode cX6_bound 24 = .ok (.aload_n 0, 1) := by decide +kernel
theorem dX6_bound_25 : decode cX6_bound 25 = .ok (.getfield 7, 3) := by decide +kernel
theorem dX6_bound_28 : decode cX6_bound 28 = .ok (.sipush 568, 3) := by decide +kernel
theorem dX6_bound_31 : decode cX6_bound 31 = .ok (.iload_n 1, 1) := by decide +kernel
