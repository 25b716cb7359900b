theorem d_Mo_give_35 : decode b_Mo_give 35 = .ok (.iadd, 1) := by decide +kernel
theorem d_Mo_give_36 : decode b_Mo_give 36 = .ok (.putfield 151, 3) := by decide +kernel
theorem d_Mo_give_39 : decode b_Mo_give 39 = .ok (.return_, 1) := by decide +kernel
theorem d_Mo_guarded_0 : decode b_Mo_guarded 0 = .ok (.iconst 3, 1) := by decide +kernel
theorem d_Mo_guarded_1 : decode b_Mo_guarded 1 = .ok (.iload_n 1, 1) := by decide +kernel
theorem d_Mo_guarded_2 : decode b_Mo_guarded 2 = .ok (.imul, 1) := by decide +kernel
theorem d_Mo_guarded_3 : decode b_Mo_guarded 3 = .ok (.istore_n 3, 1) := by decide +kernel
theorem d_Mo_guarded_4 : decode b_Mo_guarded 4 = .ok (.iload_n 3, 1) := by decide +kernel
theorem d_Mo_guarded_5 : decode b_Mo_guarded 5 = .ok (.iconst 3, 1) := by decide +kernel
theorem d_Mo_guarded_6 : decode b_Mo_guarded 6 = .ok (.iload_n 1, 1) := by decide +kernel
theorem d_Mo_guarded_7 : decode b_Mo_guarded 7 = .ok (.imul, 1) := by decide +kernel
theorem d_Mo_guarded_8 : decode b_Mo_guarded 8 = .ok (.aload_n 0, 1) := by decide +kernel
theorem d_Mo_guarded_9 : decode b_Mo_guarded 9 = .ok (.getfield 37, 3) := by decide +kernel
theorem d_Mo_guarded_12 : decode b_Mo_guarded 12 = .ok (.iload_n 1, 1) := by decide +kernel
theorem d_Mo_guarded_13 : decode b_Mo_guarded 13 = .ok (.iaload, 1) := by decide +kernel
theorem d_Mo_guarded_14 : decode b_Mo_guarded 14 = .ok (.iadd, 1) := by decide +kernel
theorem d_Mo_guarded_15 : decode b_Mo_guarded 15 = .ok (.if_icmp .ge 36, 3) := by decide +kernel
theorem d_Mo_guarded_18 : decode b_Mo_guarded 18 = .ok (.iload_n 2, 1) := by decide +kernel
theorem d_Mo_guarded_19 : decode b_Mo_guarded 19 = .ok (.aload_n 0, 1) := by decide +kernel
theorem d_Mo_guarded_20 : decode b_Mo_guarded 20 = .ok (.getfield 40, 3) := by decide +kernel
theorem d_Mo_guarded_23 : decode b_Mo_guarded 23 = .ok (.iload_n 3, 1) := by decide +kernel
theorem d_Mo_guarded_24 : decode b_Mo_guarded 24 = .ok (.iaload, 1) := by decide +kernel
theorem d_Mo_guarded_25 : decode b_Mo_guarded 25 = .ok (.if_icmp .lt 20, 3) := by decide +kernel
theorem d_Mo_guarded_28 : decode b_Mo_guarded 28 = .ok (.iload_n 2, 1) := by decide +kernel
theorem d_Mo_guarded_29 : decode b_Mo_guarded 29 = .ok (.aload_n 0, 1) := by decide +kernel
theorem d_Mo_guarded_30 : decode b_Mo_guarded 30 = .ok (.getfield 43, 3) := by decide +kernel
theorem d_Mo_guarded_33 : decode b_Mo_guarded 33 = .ok (.iload_n 3, 1) := by decide +kernel
theorem d_Mo_guarded_34 : decode b_Mo_guarded 34 = .ok (.iaload, 1) := by decide +kernel
theorem d_Mo_guarded_35 : decode b_Mo_guarded 35 = .ok (.if_icmp .ge 10, 3) := by decide +kernel
theorem d_Mo_guarded_38 : decode b_Mo_guarded 38 = .ok (.aload_n 0, 1) := by decide +kernel
theorem d_Mo_guarded_39 : decode b_Mo_guarded 39 = .ok (.getfield 46, 3) := by decide +kernel
theorem d_Mo_guarded_42 : decode b_Mo_guarded 42 = .ok (.iload_n 3, 1) := by decide +kernel
theorem d_Mo_guarded_43 : decode b_Mo_guarded 43 = .ok (.iaload, 1) := by decide +kernel
theorem d_Mo_guarded_44 : decode b_Mo_guarded 44 = .ok (.ireturn, 1) := by decide +kernel
theorem d_Mo_guarded_45 : decode b_Mo_guarded 45 = .ok (.iinc 3 1, 3) := by decide +kernel
theorem d_Mo_guarded_48 : decode b_Mo_guarded 48 = .ok (.goto (-44), 3) := by decide +kernel
theorem d_Mo_guarded_51 : decode b_Mo_guarded 51 = .ok (.iconst (-1), 1) := by decide +kernel
theorem d_Mo_guarded_52 : decode b_Mo_guarded 52 = .ok (.ireturn, 1) := by decide +kernel
theorem d_Mo_spread_0 : decode b_Mo_spread 0 = .ok (.iconst 0, 1) := by decide +kernel
theorem d_Mo_spread_1 : decode b_Mo_spread 1 = .ok (.istore_n 1, 1) := by decide +kernel
theorem d_Mo_spread_2 : decode b_Mo_spread 2 = .ok (.iload_n 1, 1) := by decide +kernel
theorem d_Mo_spread_3 : decode b_Mo_spread 3 = .ok (.bipush 10, 2) := by decide +kernel
theorem d_Mo_spread_5 : decode b_Mo_spread 5 = .ok (.if_icmp .ge 16, 3) := by decide +kernel
theorem d_Mo_spread_8 : decode b_Mo_spread 8 = .ok (.aload_n 0, 1) := by decide +kernel
theorem d_Mo_spread_9 : decode b_Mo_spread 9 = .ok (.getfield 62, 3) := by decide +kernel
theorem d_Mo_spread_12 : decode b_Mo_spread 12 = .ok (.iload_n 1, 1) := by decide +kernel
theorem d_Mo_spread_13 : decode b_Mo_spread 13 = .ok (.iconst 0, 1) := by decide +kernel
theorem d_Mo_spread_14 : decode b_Mo_spread 14 = .ok (.bastore, 1) := by decide +kernel
theorem d_Mo_spread_15 : decode b_Mo_spread 15 = .ok (.iinc 1 1, 3) := by decide +kernel
theorem d_Mo_spread_18 : decode b_Mo_spread 18 = .ok (.goto (-16), 3) := by decide +kernel
theorem d_Mo_spread_21 : decode b_Mo_spread 21 = .ok (.iconst 0, 1) := by decide +kernel
theorem d_Mo_spread_22 : decode b_Mo_spread 22 = .ok (.istore_n 1, 1) := by decide +kernel
theorem d_Mo_spread_23 : decode b_Mo_spread 23 = .ok (.iload_n 1, 1) := by decide +kernel
theorem d_Mo_spread_24 : decode b_Mo_spread 24 = .ok (.bipush 6, 2) := by decide +kernel
theorem d_Mo_spread_26 : decode b_Mo_spread 26 = .ok (.if_icmp .ge 23, 3) := by decide +kernel
theorem d_Mo_spread_29 : decode b_Mo_spread 29 = .ok (.aload_n 0, 1) := by decide +kernel
theorem d_Mo_spread_30 : decode b_Mo_spread 30 = .ok (.getfield 65, 3) := by decide +kernel
theorem d_Mo_spread_33 : decode b_Mo_spread 33 = .ok (.iload_n 1, 1) := by decide +kernel
theorem d_Mo_spread_34 : decode b_Mo_spread 34 = .ok (.iconst 0, 1) := by decide +kernel
theorem d_Mo_spread_35 : decode b_Mo_spread 35 = .ok (.bastore, 1) := by decide +kernel
theorem d_Mo_spread_36 : decode b_Mo_spread 36 = .ok (.aload_n 0, 1) := by decide +kernel
theorem d_Mo_spread_37 : decode b_Mo_spread 37 = .ok (.getfield 68, 3) := by decide +kernel
theorem d_Mo_spread_40 : decode b_Mo_spread 40 = .ok (.iload_n 1, 1) := by decide +kernel
theorem d_Mo_spread_41 : decode b_Mo_spread 41 = .ok (.iconst 0, 1) := by decide +kernel
theorem d_Mo_spread_42 : decode b_Mo_spread 42 = .ok (.bastore, 1) := by decide +kernel
theorem d_Mo_spread_43 : decode b_Mo_spread 43 = .ok (.iinc 1 1, 3) := by decide +kernel
theorem d_Mo_spread_46 : decode b_Mo_spread 46 = .ok (.goto (-23), 3) := by decide +kernel
theorem d_Mo_spread_49 : decode b_Mo_spread 49 = .ok (.aload_n 0, 1) := by decide +kernel
theorem d_Mo_spread_50 : decode b_Mo_spread 50 = .ok (.getfield 62, 3) := by decide +kernel
theorem d_Mo_spread_53 : decode b_Mo_spread 53 = .ok (.iconst 0, 1) := by decide +kernel
theorem d_Mo_spread_54 : decode b_Mo_spread 54 = .ok (.iconst 1, 1) := by decide +kernel
theorem d_Mo_spread_55 : decode b_Mo_spread 55 = .ok (.bastore, 1) := by decide +kernel
theorem d_Mo_spread_56 : decode b_Mo_spread 56 = .ok (.aload_n 0, 1) := by decide +kernel
theorem d_Mo_spread_57 : decode b_Mo_spread 57 = .ok (.aload_n 0, 1) := by decide +kernel
theorem d_Mo_spread_58 : decode b_Mo_spread 58 = .ok (.getfield 19, 3) := by decide +kernel
theorem d_Mo_spread_61 : decode b_Mo_spread 61 = .ok (.iconst 0, 1) := by decide +kernel
theorem d_Mo_spread_62 : decode b_Mo_spread 62 = .ok (.iaload, 1) := by decide +kernel
theorem d_Mo_spread_63 : decode b_Mo_spread 63 = .ok (.invokevirtual 202, 3) := by decide +kernel
theorem d_Mo_spread_66 : decode b_Mo_spread 66 = .ok (.aload_n 0, 1) := by decide +kernel
theorem d_Mo_spread_67 : decode b_Mo_spread 67 = .ok (.iconst 1, 1) := by decide +kernel
theorem d_Mo_spread_68 : decode b_Mo_spread 68 = .ok (.putfield 157, 3) := by decide +kernel
theorem d_Mo_spread_71 : decode b_Mo_spread 71 = .ok (.iconst 0, 1) := by decide +kernel
theorem d_Mo_spread_72 : decode b_Mo_spread 72 = .ok (.istore_n 1, 1) := by decide +kernel
theorem d_Mo_spread_73 : decode b_Mo_spread 73 = .ok (.iload_n 1, 1) := by decide +kernel
theorem d_Mo_spread_74 : decode b_Mo_spread 74 = .ok (.bipush 30, 2) := by decide +kernel
theorem d_Mo_spread_76 : decode b_Mo_spread 76 = .ok (.if_icmp .ge 82, 3) := by decide +kernel
theorem d_Mo_spread_79 : decode b_Mo_spread 79 = .ok (.aload_n 0, 1) := by decide +kernel
theorem d_Mo_spread_80 : decode b_Mo_spread 80 = .ok (.getfield 157, 3) := by decide +kernel
theorem d_Mo_spread_83 : decode b_Mo_spread 83 = .ok (.ifCond .eq 75, 3) := by decide +kernel
theorem d_Mo_spread_86 : decode b_Mo_spread 86 = .ok (.aload_n 0, 1) := by decide +kernel
theorem d_Mo_spread_87 : decode b_Mo_spread 87 = .ok (.iconst 0, 1) := by decide +kernel
theorem d_Mo_spread_88 : decode b_Mo_spread 88 = .ok (.putfield 157, 3) := by decide +kernel
theorem d_Mo_spread_91 : decode b_Mo_spread 91 = .ok (.iconst 0, 1) := by decide +kernel
theorem d_Mo_spread_92 : decode b_Mo_spread 92 = .ok (.istore_n 2, 1) := by decide +kernel
theorem d_Mo_spread_93 : decode b_Mo_spread 93 = .ok (.iload_n 2, 1) := by decide +kernel
theorem d_Mo_spread_94 : decode b_Mo_spread 94 = .ok (.bipush 20, 2) := by decide +kernel
theorem d_Mo_spread_96 : decode b_Mo_spread 96 = .ok (.aload_n 0, 1) := by decide +kernel
theorem d_Mo_spread_97 : decode b_Mo_spread 97 = .ok (.getfield 129, 3) := by decide +kernel
theorem d_Mo_spread_100 : decode b_Mo_spread 100 = .ok (.imul, 1) := by decide +kernel
theorem d_Mo_spread_101 : decode b_Mo_spread 101 = .ok (.if_icmp .ge 51, 3) := by decide +kernel
theorem d_Mo_spread_104 : decode b_Mo_spread 104 = .ok (.aload_n 0, 1) := by decide +kernel
theorem d_Mo_spread_105 : decode b_Mo_spread 105 = .ok (.getfield 62, 3) := by decide +kernel
theorem d_Mo_spread_108 : decode b_Mo_spread 108 = .ok (.iload_n 2, 1) := by decide +kernel
theorem d_Mo_spread_109 : decode b_Mo_spread 109 = .ok (.bipush 20, 2) := by decide +kernel
theorem d_Mo_spread_111 : decode b_Mo_spread 111 = .ok (.idiv, 1) := by decide +kernel
theorem d_Mo_spread_112 : decode b_Mo_spread 112 = .ok (.baload, 1) := by decide +kernel
theorem d_Mo_spread_113 : decode b_Mo_spread 113 = .ok (.ifCond .eq 33, 3) := by decide +kernel
theorem d_Mo_spread_116 : decode b_Mo_spread 116 = .ok (.iload_n 2, 1) := by decide +kernel
theorem d_Mo_spread_117 : decode b_Mo_spread 117 = .ok (.bipush 20, 2) := by decide +kernel
theorem d_Mo_spread_119 : decode b_Mo_spread 119 = .ok (.irem, 1) := by decide +kernel
theorem d_Mo_spread_120 : decode b_Mo_spread 120 = .ok (.aload_n 0, 1) := by decide +kernel
theorem d_Mo_spread_121 : decode b_Mo_spread 121 = .ok (.getfield 28, 3) := by decide +kernel
theorem d_Mo_spread_124 : decode b_Mo_spread 124 = .ok (.iload_n 2, 1) := by decide +kernel
theorem d_Mo_spread_125 : decode b_Mo_spread 125 = .ok (.bipush 20, 2) := by decide +kernel
theorem d_Mo_spread_127 : decode b_Mo_spread 127 = .ok (.idiv, 1) := by decide +kernel
theorem d_Mo_spread_128 : decode b_Mo_spread 128 = .ok (.iaload, 1) := by decide +kernel
theorem d_Mo_spread_129 : decode b_Mo_spread 129 = .ok (.if_icmp .ge 17, 3) := by decide +kernel
theorem d_Mo_spread_132 : decode b_Mo_spread 132 = .ok (.aload_n 0, 1) := by decide +kernel
theorem d_Mo_spread_133 : decode b_Mo_spread 133 = .ok (.getfield 49, 3) := by decide +kernel
theorem d_Mo_spread_136 : decode b_Mo_spread 136 = .ok (.iload_n 2, 1) := by decide +kernel
theorem d_Mo_spread_137 : decode b_Mo_spread 137 = .ok (.baload, 1) := by decide +kernel
theorem d_Mo_spread_138 : decode b_Mo_spread 138 = .ok (.ifCond .eq 8, 3) := by decide +kernel
theorem d_Mo_spread_141 : decode b_Mo_spread 141 = .ok (.aload_n 0, 1) := by decide +kernel
theorem d_Mo_spread_142 : decode b_Mo_spread 142 = .ok (.iload_n 2, 1) := by decide +kernel
theorem d_Mo_spread_143 : decode b_Mo_spread 143 = .ok (.invokevirtual 205, 3) := by decide +kernel
theorem d_Mo_spread_146 : decode b_Mo_spread 146 = .ok (.iinc 2 1, 3) := by decide +kernel
theorem d_Mo_spread_149 : decode b_Mo_spread 149 = .ok (.goto (-56), 3) := by decide +kernel
theorem d_Mo_spread_152 : decode b_Mo_spread 152 = .ok (.iinc 1 1, 3) := by decide +kernel
theorem d_Mo_spread_155 : decode b_Mo_spread 155 = .ok (.goto (-82), 3) := by decide +kernel
theorem d_Mo_spread_158 : decode b_Mo_spread 158 = .ok (.return_, 1) := by decide +kernel
theorem d_Mo_touch_0 : decode b_Mo_touch 0 = .ok (.iload_n 1, 1) := by decide +kernel
theorem d_Mo_touch_1 : decode b_Mo_touch 1 = .ok (.istore_n 2, 1) := by decide +kernel
theorem d_Mo_touch_2 : decode b_Mo_touch 2 = .ok (.iload_n 2, 1) := by decide +kernel
theorem d_Mo_touch_3 : decode b_Mo_touch 3 = .ok (.ifCond .lt 64, 3) := by decide +kernel
theorem d_Mo_touch_6 : decode b_Mo_touch 6 = .ok (.aload_n 0, 1) := by decide +kernel
theorem d_Mo_touch_7 : decode b_Mo_touch 7 = .ok (.aload_n 0, 1) := by decide +kernel
theorem d_Mo_touch_8 : decode b_Mo_touch 8 = .ok (.getfield 157, 3) := by decide +kernel
theorem d_Mo_touch_11 : decode b_Mo_touch 11 = .ok (.ifCond .ne 12, 3) := by decide +kernel
theorem d_Mo_touch_14 : decode b_Mo_touch 14 = .ok (.aload_n 0, 1) := by decide +kernel
theorem d_Mo_touch_15 : decode b_Mo_touch 15 = .ok (.getfield 65, 3) := by decide +kernel
theorem d_Mo_touch_18 : decode b_Mo_touch 18 = .ok (.iload_n 2, 1) := by decide +kernel
theorem d_Mo_touch_19 : decode b_Mo_touch 19 = .ok (.baload, 1) := by decide +kernel
theorem d_Mo_touch_20 : decode b_Mo_touch 20 = .ok (.ifCond .ne 7, 3) := by decide +kernel
theorem d_Mo_touch_23 : decode b_Mo_touch 23 = .ok (.iconst 1, 1) := by decide +kernel
theorem d_Mo_touch_24 : decode b_Mo_touch 24 = .ok (.goto 4, 3) := by decide +kernel
theorem d_Mo_touch_27 : decode b_Mo_touch 27 = .ok (.iconst 0, 1) := by decide +kernel
theorem d_Mo_touch_28 : decode b_Mo_touch 28 = .ok (.putfield 157, 3) := by decide +kernel
theorem d_Mo_touch_31 : decode b_Mo_touch 31 = .ok (.aload_n 0, 1) := by decide +kernel
theorem d_Mo_touch_32 : decode b_Mo_touch 32 = .ok (.getfield 65, 3) := by decide +kernel
theorem d_Mo_touch_35 : decode b_Mo_touch 35 = .ok (.iload_n 2, 1) := by decide +kernel
theorem d_Mo_touch_36 : decode b_Mo_touch 36 = .ok (.iconst 1, 1) := by decide +kernel
theorem d_Mo_touch_37 : decode b_Mo_touch 37 = .ok (.bastore, 1) := by decide +kernel
theorem d_Mo_touch_38 : decode b_Mo_touch 38 = .ok (.aload_n 0, 1) := by decide +kernel
theorem d_Mo_touch_39 : decode b_Mo_touch 39 = .ok (.getfield 16, 3) := by decide +kernel
theorem d_Mo_touch_42 : decode b_Mo_touch 42 = .ok (.iload_n 2, 1) := by decide +kernel
theorem d_Mo_touch_43 : decode b_Mo_touch 43 = .ok (.iaload, 1) := by decide +kernel
theorem d_Mo_touch_44 : decode b_Mo_touch 44 = .ok (.ifCond .lt 13, 3) := by decide +kernel
theorem d_Mo_touch_47 : decode b_Mo_touch 47 = .ok (.aload_n 0, 1) := by decide +kernel
theorem d_Mo_touch_48 : decode b_Mo_touch 48 = .ok (.aload_n 0, 1) := by decide +kernel
theorem d_Mo_touch_49 : decode b_Mo_touch 49 = .ok (.getfield 16, 3) := by decide +kernel
theorem d_Mo_touch_52 : decode b_Mo_touch 52 = .ok (.iload_n 2, 1) := by decide +kernel
theorem d_Mo_touch_53 : decode b_Mo_touch 53 = .ok (.iaload, 1) := by decide +kernel
theorem d_Mo_touch_54 : decode b_Mo_touch 54 = .ok (.invokevirtual 196, 3) := by decide +kernel
theorem d_Mo_touch_57 : decode b_Mo_touch 57 = .ok (.aload_n 0, 1) := by decide +kernel
theorem d_Mo_touch_58 : decode b_Mo_touch 58 = .ok (.getfield 7, 3) := by decide +kernel
theorem d_Mo_touch_61 : decode b_Mo_touch 61 = .ok (.iload_n 2, 1) := by decide +kernel
theorem d_Mo_touch_62 : decode b_Mo_touch 62 = .ok (.iaload, 1) := by decide +kernel
theorem d_Mo_touch_63 : decode b_Mo_touch 63 = .ok (.istore_n 2, 1) := by decide +kernel
theorem d_Mo_touch_64 : decode b_Mo_touch 64 = .ok (.goto (-62), 3) := by decide +kernel
theorem d_Mo_touch_67 : decode b_Mo_touch 67 = .ok (.return_, 1) := by decide +kernel
theorem d_Mo_enliven_0 : decode b_Mo_enliven 0 = .ok (.aload_n 0, 1) := by decide +kernel
theorem d_Mo_enliven_1 : decode b_Mo_enliven 1 = .ok (.aload_n 0, 1) := by decide +kernel
theorem d_Mo_enliven_2 : decode b_Mo_enliven 2 = .ok (.getfield 157, 3) := by decide +kernel
theorem d_Mo_enliven_5 : decode b_Mo_enliven 5 = .ok (.ifCond .ne 12, 3) := by decide +kernel
theorem d_Mo_enliven_8 : decode b_Mo_enliven 8 = .ok (.aload_n 0, 1) := by decide +kernel
theorem d_Mo_enliven_9 : decode b_Mo_enliven 9 = .ok (.getfield 62, 3) := by decide +kernel
theorem d_Mo_enliven_12 : decode b_Mo_enliven 12 = .ok (.iload_n 1, 1) := by decide +kernel
theorem d_Mo_enliven_13 : decode b_Mo_enliven 13 = .ok (.baload, 1) := by decide +kernel
theorem d_Mo_enliven_14 : decode b_Mo_enliven 14 = .ok (.ifCond .ne 7, 3) := by decide +kernel
theorem d_Mo_enliven_17 : decode b_Mo_enliven 17 = .ok (.iconst 1, 1) := by decide +kernel
theorem d_Mo_enliven_18 : decode b_Mo_enliven 18 = .ok (.goto 4, 3) := by decide +kernel
theorem d_Mo_enliven_21 : decode b_Mo_enliven 21 = .ok (.iconst 0, 1) := by decide +kernel
theorem d_Mo_enliven_22 : decode b_Mo_enliven 22 = .ok (.putfield 157, 3) := by decide +kernel
theorem d_Mo_enliven_25 : decode b_Mo_enliven 25 = .ok (.aload_n 0, 1) := by decide +kernel
theorem d_Mo_enliven_26 : decode b_Mo_enliven 26 = .ok (.getfield 62, 3) := by decide +kernel
theorem d_Mo_enliven_29 : decode b_Mo_enliven 29 = .ok (.iload_n 1, 1) := by decide +kernel
theorem d_Mo_enliven_30 : decode b_Mo_enliven 30 = .ok (.iconst 1, 1) := by decide +kernel
theorem d_Mo_enliven_31 : decode b_Mo_enliven 31 = .ok (.bastore, 1) := by decide +kernel
theorem d_Mo_enliven_32 : decode b_Mo_enliven 32 = .ok (.return_, 1) := by decide +kernel
theorem d_Mo_reach_0 : decode b_Mo_reach 0 = .ok (.aload_n 0, 1) := by decide +kernel
theorem d_Mo_reach_1 : decode b_Mo_reach 1 = .ok (.getfield 31, 3) := by decide +kernel
theorem d_Mo_reach_4 : decode b_Mo_reach 4 = .ok (.iload_n 1, 1) := by decide +kernel
theorem d_Mo_reach_5 : decode b_Mo_reach 5 = .ok (.iaload, 1) := by decide +kernel
theorem d_Mo_reach_6 : decode b_Mo_reach 6 = .ok (.istore_n 2, 1) := by decide +kernel
theorem d_Mo_reach_7 : decode b_Mo_reach 7 = .ok (.aload_n 0, 1) := by decide +kernel
theorem d_Mo_reach_8 : decode b_Mo_reach 8 = .ok (.getfield 34, 3) := by decide +kernel
theorem d_Mo_reach_11 : decode b_Mo_reach 11 = .ok (.iload_n 1, 1) := by decide +kernel
theorem d_Mo_reach_12 : decode b_Mo_reach 12 = .ok (.iaload, 1) := by decide +kernel
theorem d_Mo_reach_13 : decode b_Mo_reach 13 = .ok (.istore_n 3, 1) := by decide +kernel
theorem d_Mo_reach_14 : decode b_Mo_reach 14 = .ok (.iload_n 2, 1) := by decide +kernel
theorem d_Mo_reach_15 : decode b_Mo_reach 15 = .ok (.bipush 11, 2) := by decide +kernel
theorem d_Mo_reach_17 : decode b_Mo_reach 17 = .ok (.if_icmp .ne 35, 3) := by decide +kernel
theorem d_Mo_reach_20 : decode b_Mo_reach 20 = .ok (.aload_n 0, 1) := by decide +kernel
theorem d_Mo_reach_21 : decode b_Mo_reach 21 = .ok (.aload_n 0, 1) := by decide +kernel
theorem d_Mo_reach_22 : decode b_Mo_reach 22 = .ok (.getfield 157, 3) := by decide +kernel
theorem d_Mo_reach_25 : decode b_Mo_reach 25 = .ok (.ifCond .ne 12, 3) := by decide +kernel
theorem d_Mo_reach_28 : decode b_Mo_reach 28 = .ok (.aload_n 0, 1) := by decide +kernel
theorem d_Mo_reach_29 : decode b_Mo_reach 29 = .ok (.getfield 68, 3) := by decide +kernel
theorem d_Mo_reach_32 : decode b_Mo_reach 32 = .ok (.iload_n 3, 1) := by decide +kernel
theorem d_Mo_reach_33 : decode b_Mo_reach 33 = .ok (.baload, 1) := by decide +kernel
theorem d_Mo_reach_34 : decode b_Mo_reach 34 = .ok (.ifCond .ne 7, 3) := by decide +kernel
theorem d_Mo_reach_37 : decode b_Mo_reach 37 = .ok (.iconst 1, 1) := by decide +kernel
theorem d_Mo_reach_38 : decode b_Mo_reach 38 = .ok (.goto 4, 3) := by decide +kernel
theorem d_Mo_reach_41 : decode b_Mo_reach 41 = .ok (.iconst 0, 1) := by decide +kernel
theorem d_Mo_reach_42 : decode b_Mo_reach 42 = .ok (.putfield 157, 3) := by decide +kernel
theorem d_Mo_reach_45 : decode b_Mo_reach 45 = .ok (.aload_n 0, 1) := by decide +kernel
theorem d_Mo_reach_46 : decode b_Mo_reach 46 = .ok (.getfield 68, 3) := by decide +kernel
theorem d_Mo_reach_49 : decode b_Mo_reach 49 = .ok (.iload_n 3, 1) := by decide +kernel
theorem d_Mo_reach_50 : decode b_Mo_reach 50 = .ok (.iconst 1, 1) := by decide +kernel
theorem d_Mo_reach_51 : decode b_Mo_reach 51 = .ok (.bastore, 1) := by decide +kernel
theorem d_Mo_reach_52 : decode b_Mo_reach 52 = .ok (.iload_n 2, 1) := by decide +kernel
theorem d_Mo_reach_53 : decode b_Mo_reach 53 = .ok (.bipush 11, 2) := by decide +kernel
theorem d_Mo_reach_55 : decode b_Mo_reach 55 = .ok (.if_icmp .eq 15, 3) := by decide +kernel
theorem d_Mo_reach_58 : decode b_Mo_reach 58 = .ok (.iload_n 2, 1) := by decide +kernel
theorem d_Mo_reach_59 : decode b_Mo_reach 59 = .ok (.bipush 14, 2) := by decide +kernel
theorem d_Mo_reach_61 : decode b_Mo_reach 61 = .ok (.if_icmp .eq 9, 3) := by decide +kernel
theorem d_Mo_reach_64 : decode b_Mo_reach 64 = .ok (.iload_n 2, 1) := by decide +kernel
theorem d_Mo_reach_65 : decode b_Mo_reach 65 = .ok (.bipush 15, 2) := by decide +kernel
theorem d_Mo_reach_67 : decode b_Mo_reach 67 = .ok (.if_icmp .ne 8, 3) := by decide +kernel
theorem d_Mo_reach_70 : decode b_Mo_reach 70 = .ok (.aload_n 0, 1) := by decide +kernel
theorem d_Mo_reach_71 : decode b_Mo_reach 71 = .ok (.iload_n 3, 1) := by decide +kernel
theorem d_Mo_reach_72 : decode b_Mo_reach 72 = .ok (.invokevirtual 202, 3) := by decide +kernel
theorem d_Mo_reach_75 : decode b_Mo_reach 75 = .ok (.iload_n 2, 1) := by decide +kernel
theorem d_Mo_reach_76 : decode b_Mo_reach 76 = .ok (.bipush 16, 2) := by decide +kernel
theorem d_Mo_reach_78 : decode b_Mo_reach 78 = .ok (.if_icmp .ne 18, 3) := by decide +kernel
theorem d_Mo_reach_81 : decode b_Mo_reach 81 = .ok (.aload_n 0, 1) := by decide +kernel
theorem d_Mo_reach_82 : decode b_Mo_reach 82 = .ok (.iload_n 3, 1) := by decide +kernel
theorem d_Mo_reach_83 : decode b_Mo_reach 83 = .ok (.invokevirtual 196, 3) := by decide +kernel
theorem d_Mo_reach_86 : decode b_Mo_reach 86 = .ok (.aload_n 0, 1) := by decide +kernel
theorem d_Mo_reach_87 : decode b_Mo_reach 87 = .ok (.aload_n 0, 1) := by decide +kernel
theorem d_Mo_reach_88 : decode b_Mo_reach 88 = .ok (.getfield 19, 3) := by decide +kernel
theorem d_Mo_reach_91 : decode b_Mo_reach 91 = .ok (.iload_n 3, 1) := by decide +kernel
theorem d_Mo_reach_92 : decode b_Mo_reach 92 = .ok (.iaload, 1) := by decide +kernel
theorem d_Mo_reach_93 : decode b_Mo_reach 93 = .ok (.invokevirtual 202, 3) := by decide +kernel
theorem d_Mo_reach_96 : decode b_Mo_reach 96 = .ok (.iconst 0, 1) := by decide +kernel
theorem d_Mo_reach_97 : decode b_Mo_reach 97 = .ok (.istore 4, 2) := by decide +kernel
theorem d_Mo_reach_99 : decode b_Mo_reach 99 = .ok (.iload_n 2, 1) := by decide +kernel
theorem d_Mo_reach_100 : decode b_Mo_reach 100 = .ok (.bipush 17, 2) := by decide +kernel
theorem d_Mo_reach_102 : decode b_Mo_reach 102 = .ok (.if_icmp .ne 34, 3) := by decide +kernel
theorem d_Mo_reach_105 : decode b_Mo_reach 105 = .ok (.iload 4, 2) := by decide +kernel
theorem d_Mo_reach_107 : decode b_Mo_reach 107 = .ok (.aload_n 0, 1) := by decide +kernel
theorem d_Mo_reach_108 : decode b_Mo_reach 108 = .ok (.getfield 129, 3) := by decide +kernel
theorem d_Mo_reach_111 : decode b_Mo_reach 111 = .ok (.if_icmp .ge 25, 3) := by decide +kernel
theorem d_Mo_reach_114 : decode b_Mo_reach 114 = .ok (.aload_n 0, 1) := by decide +kernel
theorem d_Mo_reach_115 : decode b_Mo_reach 115 = .ok (.iload_n 1, 1) := by decide +kernel
theorem d_Mo_reach_116 : decode b_Mo_reach 116 = .ok (.iload 4, 2) := by decide +kernel
theorem d_Mo_reach_118 : decode b_Mo_reach 118 = .ok (.invokevirtual 208, 3) := by decide +kernel
theorem d_Mo_reach_121 : decode b_Mo_reach 121 = .ok (.ifCond .eq 9, 3) := by decide +kernel
theorem d_Mo_reach_124 : decode b_Mo_reach 124 = .ok (.aload_n 0, 1) := by decide +kernel
theorem d_Mo_reach_125 : decode b_Mo_reach 125 = .ok (.iload 4, 2) := by decide +kernel
theorem d_Mo_reach_127 : decode b_Mo_reach 127 = .ok (.invokevirtual 196, 3) := by decide +kernel
theorem d_Mo_reach_130 : decode b_Mo_reach 130 = .ok (.iinc 4 1, 3) := by decide +kernel
theorem d_Mo_reach_133 : decode b_Mo_reach 133 = .ok (.goto (-34), 3) := by decide +kernel
theorem d_Mo_reach_136 : decode b_Mo_reach 136 = .ok (.return_, 1) := by decide +kernel
theorem d_Mo_target_0 : decode b_Mo_target 0 = .ok (.iconst 0, 1) := by decide +kernel
theorem d_Mo_target_1 : decode b_Mo_target 1 = .ok (.istore_n 3, 1) := by decide +kernel
theorem d_Mo_target_2 : decode b_Mo_target 2 = .ok (.aload_n 0, 1) := by decide +kernel
theorem d_Mo_target_3 : decode b_Mo_target 3 = .ok (.iload_n 1, 1) := by decide +kernel
theorem d_Mo_target_4 : decode b_Mo_target 4 = .ok (.invokevirtual 199, 3) := by decide +kernel
theorem d_Mo_target_7 : decode b_Mo_target 7 = .ok (.istore 4, 2) := by decide +kernel
theorem d_Mo_target_9 : decode b_Mo_target 9 = .ok (.iconst 0, 1) := by decide +kernel
theorem d_Mo_target_10 : decode b_Mo_target 10 = .ok (.istore 5, 2) := by decide +kernel
theorem d_Mo_target_12 : decode b_Mo_target 12 = .ok (.iload 5, 2) := by decide +kernel
theorem d_Mo_target_14 : decode b_Mo_target 14 = .ok (.aload_n 0, 1) := by decide +kernel
theorem d_Mo_target_15 : decode b_Mo_target 15 = .ok (.getfield 114, 3) := by decide +kernel
theorem d_Mo_target_18 : decode b_Mo_target 18 = .ok (.if_icmp .ge 56, 3) := by decide +kernel
theorem d_Mo_target_21 : decode b_Mo_target 21 = .ok (.iload_n 3, 1) := by decide +kernel
theorem d_Mo_target_22 : decode b_Mo_target 22 = .ok (.ifCond .ne 40, 3) := by decide +kernel
theorem d_Mo_target_25 : decode b_Mo_target 25 = .ok (.aload_n 0, 1) := by decide +kernel
theorem d_Mo_target_26 : decode b_Mo_target 26 = .ok (.getfield 68, 3) := by decide +kernel
theorem d_Mo_target_29 : decode b_Mo_target 29 = .ok (.iload 5, 2) := by decide +kernel
theorem d_Mo_target_31 : decode b_Mo_target 31 = .ok (.baload, 1) := by decide +kernel
theorem d_Mo_target_32 : decode b_Mo_target 32 = .ok (.ifCond .eq 34, 3) := by decide +kernel
theorem d_Mo_target_35 : decode b_Mo_target 35 = .ok (.aload_n 0, 1) := by decide +kernel
theorem d_Mo_target_36 : decode b_Mo_target 36 = .ok (.iload 5, 2) := by decide +kernel
theorem d_Mo_target_38 : decode b_Mo_target 38 = .ok (.iload 4, 2) := by decide +kernel
theorem d_Mo_target_40 : decode b_Mo_target 40 = .ok (.invokevirtual 142, 3) := by decide +kernel
theorem d_Mo_target_43 : decode b_Mo_target 43 = .ok (.ifCond .eq 23, 3) := by decide +kernel
theorem d_Mo_target_46 : decode b_Mo_target 46 = .ok (.aload_n 0, 1) := by decide +kernel
theorem d_Mo_target_47 : decode b_Mo_target 47 = .ok (.iload 5, 2) := by decide +kernel
theorem d_Mo_target_49 : decode b_Mo_target 49 = .ok (.aload_n 0, 1) := by decide +kernel
theorem d_Mo_target_50 : decode b_Mo_target 50 = .ok (.getfield 34, 3) := by decide +kernel
theorem d_Mo_target_53 : decode b_Mo_target 53 = .ok (.iload_n 1, 1) := by decide +kernel
theorem d_Mo_target_54 : decode b_Mo_target 54 = .ok (.iaload, 1) := by decide +kernel
theorem d_Mo_target_55 : decode b_Mo_target 55 = .ok (.invokevirtual 177, 3) := by decide +kernel
theorem d_Mo_target_58 : decode b_Mo_target 58 = .ok (.iload_n 2, 1) := by decide +kernel
theorem d_Mo_target_59 : decode b_Mo_target 59 = .ok (.if_icmp .ne 7, 3) := by decide +kernel
theorem d_Mo_target_62 : decode b_Mo_target 62 = .ok (.iconst 1, 1) := by decide +kernel
theorem d_Mo_target_63 : decode b_Mo_target 63 = .ok (.goto 4, 3) := by decide +kernel
theorem d_Mo_target_66 : decode b_Mo_target 66 = .ok (.iconst 0, 1) := by decide +kernel
theorem d_Mo_target_67 : decode b_Mo_target 67 = .ok (.istore_n 3, 1) := by decide +kernel
theorem d_Mo_target_68 : decode b_Mo_target 68 = .ok (.iinc 5 1, 3) := by decide +kernel
theorem d_Mo_target_71 : decode b_Mo_target 71 = .ok (.goto (-59), 3) := by decide +kernel
theorem d_Mo_target_74 : decode b_Mo_target 74 = .ok (.iload_n 3, 1) := by decide +kernel
theorem d_Mo_target_75 : decode b_Mo_target 75 = .ok (.ireturn, 1) := by decide +kernel
theorem d_Mo_receiver_0 : decode b_Mo_receiver 0 = .ok (.aload_n 0, 1) := by decide +kernel
theorem d_Mo_receiver_1 : decode b_Mo_receiver 1 = .ok (.getfield 56, 3) := by decide +kernel
theorem d_Mo_receiver_4 : decode b_Mo_receiver 4 = .ok (.bipush 10, 2) := by decide +kernel
theorem d_Mo_receiver_6 : decode b_Mo_receiver 6 = .ok (.iload_n 1, 1) := by decide +kernel
theorem d_Mo_receiver_7 : decode b_Mo_receiver 7 = .ok (.imul, 1) := by decide +kernel
theorem d_Mo_receiver_8 : decode b_Mo_receiver 8 = .ok (.iconst 2, 1) := by decide +kernel
theorem d_Mo_receiver_9 : decode b_Mo_receiver 9 = .ok (.iadd, 1) := by decide +kernel
theorem d_Mo_receiver_10 : decode b_Mo_receiver 10 = .ok (.aload_n 0, 1) := by decide +kernel
theorem d_Mo_receiver_11 : decode b_Mo_receiver 11 = .ok (.getfield 53, 3) := by decide +kernel
theorem d_Mo_receiver_14 : decode b_Mo_receiver 14 = .ok (.iload_n 1, 1) := by decide +kernel
theorem d_Mo_receiver_15 : decode b_Mo_receiver 15 = .ok (.iaload, 1) := by decide +kernel
theorem d_Mo_receiver_16 : decode b_Mo_receiver 16 = .ok (.iadd, 1) := by decide +kernel
theorem d_Mo_receiver_17 : decode b_Mo_receiver 17 = .ok (.iaload, 1) := by decide +kernel
theorem d_Mo_receiver_18 : decode b_Mo_receiver 18 = .ok (.ireturn, 1) := by decide +kernel
theorem d_Mo_typeAt_0 : decode b_Mo_typeAt 0 = .ok (.aload_n 0, 1) := by decide +kernel
theorem d_Mo_typeAt_1 : decode b_Mo_typeAt 1 = .ok (.iload_n 1, 1) := by decide +kernel
theorem d_Mo_typeAt_2 : decode b_Mo_typeAt 2 = .ok (.iload_n 2, 1) := by decide +kernel
theorem d_Mo_typeAt_3 : decode b_Mo_typeAt 3 = .ok (.invokevirtual 193, 3) := by decide +kernel
theorem d_Mo_typeAt_6 : decode b_Mo_typeAt 6 = .ok (.ifCond .eq 23, 3) := by decide +kernel
theorem d_Mo_typeAt_9 : decode b_Mo_typeAt 9 = .ok (.iload_n 3, 1) := by decide +kernel
theorem d_Mo_typeAt_10 : decode b_Mo_typeAt 10 = .ok (.iconst 3, 1) := by decide +kernel
theorem d_Mo_typeAt_11 : decode b_Mo_typeAt 11 = .ok (.aload_n 0, 1) := by decide +kernel
theorem d_Mo_typeAt_12 : decode b_Mo_typeAt 12 = .ok (.getfield 53, 3) := by decide +kernel
theorem d_Mo_typeAt_15 : decode b_Mo_typeAt 15 = .ok (.bipush 20, 2) := by decide +kernel
theorem d_Mo_typeAt_17 : decode b_Mo_typeAt 17 = .ok (.iload_n 1, 1) := by decide +kernel
theorem d_Mo_typeAt_18 : decode b_Mo_typeAt 18 = .ok (.imul, 1) := by decide +kernel
theorem d_Mo_typeAt_19 : decode b_Mo_typeAt 19 = .ok (.iload_n 2, 1) := by decide +kernel
theorem d_Mo_typeAt_20 : decode b_Mo_typeAt 20 = .ok (.iadd, 1) := by decide +kernel
theorem d_Mo_typeAt_21 : decode b_Mo_typeAt 21 = .ok (.iaload, 1) := by decide +kernel
theorem d_Mo_typeAt_22 : decode b_Mo_typeAt 22 = .ok (.iadd, 1) := by decide +kernel
theorem d_Mo_typeAt_23 : decode b_Mo_typeAt 23 = .ok (.invokestatic 118, 3) := by decide +kernel
theorem d_Mo_typeAt_26 : decode b_Mo_typeAt 26 = .ok (.ifCond .ne 5, 3) := by decide +kernel
theorem d_Mo_typeAt_29 : decode b_Mo_typeAt 29 = .ok (.iconst (-1), 1) := by decide +kernel
theorem d_Mo_typeAt_30 : decode b_Mo_typeAt 30 = .ok (.ireturn, 1) := by decide +kernel
theorem d_Mo_typeAt_31 : decode b_Mo_typeAt 31 = .ok (.aload_n 0, 1) := by decide +kernel
theorem d_Mo_typeAt_32 : decode b_Mo_typeAt 32 = .ok (.getfield 56, 3) := by decide +kernel
theorem d_Mo_typeAt_35 : decode b_Mo_typeAt 35 = .ok (.bipush 10, 2) := by decide +kernel
theorem d_Mo_typeAt_37 : decode b_Mo_typeAt 37 = .ok (.bipush 20, 2) := by decide +kernel
theorem d_Mo_typeAt_39 : decode b_Mo_typeAt 39 = .ok (.iload_n 1, 1) := by decide +kernel
theorem d_Mo_typeAt_40 : decode b_Mo_typeAt 40 = .ok (.imul, 1) := by decide +kernel
theorem d_Mo_typeAt_41 : decode b_Mo_typeAt 41 = .ok (.iload_n 2, 1) := by decide +kernel
theorem d_Mo_typeAt_42 : decode b_Mo_typeAt 42 = .ok (.iadd, 1) := by decide +kernel
theorem d_Mo_typeAt_43 : decode b_Mo_typeAt 43 = .ok (.imul, 1) := by decide +kernel
theorem d_Mo_typeAt_44 : decode b_Mo_typeAt 44 = .ok (.iload_n 3, 1) := by decide +kernel
theorem d_Mo_typeAt_45 : decode b_Mo_typeAt 45 = .ok (.iadd, 1) := by decide +kernel
theorem d_Mo_typeAt_46 : decode b_Mo_typeAt 46 = .ok (.iaload, 1) := by decide +kernel
theorem d_Mo_typeAt_47 : decode b_Mo_typeAt 47 = .ok (.ireturn, 1) := by decide +kernel
theorem d_Mo_reachedAt_0 : decode b_Mo_reachedAt 0 = .ok (.aload_n 0, 1) := by decide +kernel
theorem d_Mo_reachedAt_1 : decode b_Mo_reachedAt 1 = .ok (.getfield 107, 3) := by decide +kernel
theorem d_Mo_reachedAt_4 : decode b_Mo_reachedAt 4 = .ok (.ifCond .eq 43, 3) := by decide +kernel
theorem d_Mo_reachedAt_7 : decode b_Mo_reachedAt 7 = .ok (.iload_n 1, 1) := by decide +kernel
theorem d_Mo_reachedAt_8 : decode b_Mo_reachedAt 8 = .ok (.aload_n 0, 1) := by decide +kernel
theorem d_Mo_reachedAt_9 : decode b_Mo_reachedAt 9 = .ok (.getfield 129, 3) := by decide +kernel
theorem d_Mo_reachedAt_12 : decode b_Mo_reachedAt 12 = .ok (.iconst 1, 1) := by decide +kernel
theorem d_Mo_reachedAt_13 : decode b_Mo_reachedAt 13 = .ok (.isub, 1) := by decide +kernel
theorem d_Mo_reachedAt_14 : decode b_Mo_reachedAt 14 = .ok (.invokestatic 118, 3) := by decide +kernel
theorem d_Mo_reachedAt_17 : decode b_Mo_reachedAt 17 = .ok (.ifCond .eq 30, 3) := by decide +kernel
theorem d_Mo_reachedAt_20 : decode b_Mo_reachedAt 20 = .ok (.iload_n 2, 1) := by decide +kernel
theorem d_Mo_reachedAt_21 : decode b_Mo_reachedAt 21 = .ok (.bipush 19, 2) := by decide +kernel
theorem d_Mo_reachedAt_23 : decode b_Mo_reachedAt 23 = .ok (.invokestatic 118, 3) := by decide +kernel
theorem d_Mo_reachedAt_26 : decode b_Mo_reachedAt 26 = .ok (.ifCond .eq 21, 3) := by decide +kernel
theorem d_Mo_reachedAt_29 : decode b_Mo_reachedAt 29 = .ok (.aload_n 0, 1) := by decide +kernel
theorem d_Mo_reachedAt_30 : decode b_Mo_reachedAt 30 = .ok (.getfield 49, 3) := by decide +kernel
theorem d_Mo_reachedAt_33 : decode b_Mo_reachedAt 33 = .ok (.bipush 20, 2) := by decide +kernel
theorem d_Mo_reachedAt_35 : decode b_Mo_reachedAt 35 = .ok (.iload_n 1, 1) := by decide +kernel
theorem d_Mo_reachedAt_36 : decode b_Mo_reachedAt 36 = .ok (.imul, 1) := by decide +kernel
theorem d_Mo_reachedAt_37 : decode b_Mo_reachedAt 37 = .ok (.iload_n 2, 1) := by decide +kernel
theorem d_Mo_reachedAt_38 : decode b_Mo_reachedAt 38 = .ok (.iadd, 1) := by decide +kernel
theorem d_Mo_reachedAt_39 : decode b_Mo_reachedAt 39 = .ok (.baload, 1) := by decide +kernel
theorem d_Mo_reachedAt_40 : decode b_Mo_reachedAt 40 = .ok (.ifCond .eq 7, 3) := by decide +kernel
theorem d_Mo_reachedAt_43 : decode b_Mo_reachedAt 43 = .ok (.iconst 1, 1) := by decide +kernel
theorem d_Mo_reachedAt_44 : decode b_Mo_reachedAt 44 = .ok (.goto 4, 3) := by decide +kernel
theorem d_Mo_reachedAt_47 : decode b_Mo_reachedAt 47 = .ok (.iconst 0, 1) := by decide +kernel
theorem d_Mo_reachedAt_48 : decode b_Mo_reachedAt 48 = .ok (.ireturn, 1) := by decide +kernel
theorem d_Mo_live_0 : decode b_Mo_live 0 = .ok (.aload_n 0, 1) := by decide +kernel
theorem d_Mo_live_1 : decode b_Mo_live 1 = .ok (.getfield 107, 3) := by decide +kernel
theorem d_Mo_live_4 : decode b_Mo_live 4 = .ok (.ifCond .eq 29, 3) := by decide +kernel
theorem d_Mo_live_7 : decode b_Mo_live 7 = .ok (.iload_n 1, 1) := by decide +kernel
theorem d_Mo_live_8 : decode b_Mo_live 8 = .ok (.aload_n 0, 1) := by decide +kernel
theorem d_Mo_live_9 : decode b_Mo_live 9 = .ok (.getfield 129, 3) := by decide +kernel
theorem d_Mo_live_12 : decode b_Mo_live 12 = .ok (.iconst 1, 1) := by decide +kernel
theorem d_Mo_live_13 : decode b_Mo_live 13 = .ok (.isub, 1) := by decide +kernel
theorem d_Mo_live_14 : decode b_Mo_live 14 = .ok (.invokestatic 118, 3) := by decide +kernel
theorem d_Mo_live_17 : decode b_Mo_live 17 = .ok (.ifCond .eq 16, 3) := by decide +kernel
theorem d_Mo_live_20 : decode b_Mo_live 20 = .ok (.aload_n 0, 1) := by decide +kernel
theorem d_Mo_live_21 : decode b_Mo_live 21 = .ok (.getfield 62, 3) := by decide +kernel
theorem d_Mo_live_24 : decode b_Mo_live 24 = .ok (.iload_n 1, 1) := by decide +kernel
theorem d_Mo_live_25 : decode b_Mo_live 25 = .ok (.baload, 1) := by decide +kernel
theorem d_Mo_live_26 : decode b_Mo_live 26 = .ok (.ifCond .eq 7, 3) := by decide +kernel
theorem d_Mo_live_29 : decode b_Mo_live 29 = .ok (.iconst 1, 1) := by decide +kernel
theorem d_Mo_live_30 : decode b_Mo_live 30 = .ok (.goto 4, 3) := by decide +kernel
theorem d_Mo_live_33 : decode b_Mo_live 33 = .ok (.iconst 0, 1) := by decide +kernel
theorem d_Mo_live_34 : decode b_Mo_live 34 = .ok (.ireturn, 1) := by decide +kernel
theorem d_Mo_targets_0 : decode b_Mo_targets 0 = .ok (.aload_n 0, 1) := by decide +kernel
theorem d_Mo_targets_1 : decode b_Mo_targets 1 = .ok (.iload_n 1, 1) := by decide +kernel
theorem d_Mo_targets_2 : decode b_Mo_targets 2 = .ok (.iload_n 2, 1) := by decide +kernel
theorem d_Mo_targets_3 : decode b_Mo_targets 3 = .ok (.invokevirtual 193, 3) := by decide +kernel
theorem d_Mo_targets_6 : decode b_Mo_targets 6 = .ok (.ifCond .eq 28, 3) := by decide +kernel
theorem d_Mo_targets_9 : decode b_Mo_targets 9 = .ok (.aload_n 0, 1) := by decide +kernel
theorem d_Mo_targets_10 : decode b_Mo_targets 10 = .ok (.getfield 62, 3) := by decide +kernel
theorem d_Mo_targets_13 : decode b_Mo_targets 13 = .ok (.iload_n 1, 1) := by decide +kernel
theorem d_Mo_targets_14 : decode b_Mo_targets 14 = .ok (.baload, 1) := by decide +kernel
theorem d_Mo_targets_15 : decode b_Mo_targets 15 = .ok (.ifCond .eq 19, 3) := by decide +kernel
theorem d_Mo_targets_18 : decode b_Mo_targets 18 = .ok (.aload_n 0, 1) := by decide +kernel
theorem d_Mo_targets_19 : decode b_Mo_targets 19 = .ok (.getfield 31, 3) := by decide +kernel
theorem d_Mo_targets_22 : decode b_Mo_targets 22 = .ok (.bipush 20, 2) := by decide +kernel
theorem d_Mo_targets_24 : decode b_Mo_targets 24 = .ok (.iload_n 1, 1) := by decide +kernel
theorem d_Mo_targets_25 : decode b_Mo_targets 25 = .ok (.imul, 1) := by decide +kernel
theorem d_Mo_targets_26 : decode b_Mo_targets 26 = .ok (.iload_n 2, 1) := by decide +kernel
theorem d_Mo_targets_27 : decode b_Mo_targets 27 = .ok (.iadd, 1) := by decide +kernel
theorem d_Mo_targets_28 : decode b_Mo_targets 28 = .ok (.iaload, 1) := by decide +kernel
theorem d_Mo_targets_29 : decode b_Mo_targets 29 = .ok (.bipush 17, 2) := by decide +kernel
theorem d_Mo_targets_31 : decode b_Mo_targets 31 = .ok (.if_icmp .eq 5, 3) := by decide +kernel
theorem d_Mo_targets_34 : decode b_Mo_targets 34 = .ok (.iconst (-1), 1) := by decide +kernel
theorem d_Mo_targets_35 : decode b_Mo_targets 35 = .ok (.ireturn, 1) := by decide +kernel
theorem d_Mo_targets_36 : decode b_Mo_targets 36 = .ok (.iconst 0, 1) := by decide +kernel
theorem d_Mo_targets_37 : decode b_Mo_targets 37 = .ok (.istore_n 3, 1) := by decide +kernel
theorem d_Mo_targets_38 : decode b_Mo_targets 38 = .ok (.iconst 0, 1) := by decide +kernel
theorem d_Mo_targets_39 : decode b_Mo_targets 39 = .ok (.istore 4, 2) := by decide +kernel
theorem d_Mo_targets_41 : decode b_Mo_targets 41 = .ok (.iload 4, 2) := by decide +kernel
theorem d_Mo_targets_43 : decode b_Mo_targets 43 = .ok (.aload_n 0, 1) := by decide +kernel
theorem d_Mo_targets_44 : decode b_Mo_targets 44 = .ok (.getfield 129, 3) := by decide +kernel
theorem d_Mo_targets_47 : decode b_Mo_targets 47 = .ok (.if_icmp .ge 32, 3) := by decide +kernel
theorem d_Mo_targets_50 : decode b_Mo_targets 50 = .ok (.iload_n 3, 1) := by decide +kernel
theorem d_Mo_targets_51 : decode b_Mo_targets 51 = .ok (.aload_n 0, 1) := by decide +kernel
theorem d_Mo_targets_52 : decode b_Mo_targets 52 = .ok (.bipush 20, 2) := by decide +kernel
theorem d_Mo_targets_54 : decode b_Mo_targets 54 = .ok (.iload_n 1, 1) := by decide +kernel
theorem d_Mo_targets_55 : decode b_Mo_targets 55 = .ok (.imul, 1) := by decide +kernel
theorem d_Mo_targets_56 : decode b_Mo_targets 56 = .ok (.iload_n 2, 1) := by decide +kernel
theorem d_Mo_targets_57 : decode b_Mo_targets 57 = .ok (.iadd, 1) := by decide +kernel
theorem d_Mo_targets_58 : decode b_Mo_targets 58 = .ok (.iload 4, 2) := by decide +kernel
theorem d_Mo_targets_60 : decode b_Mo_targets 60 = .ok (.invokevirtual 208, 3) := by decide +kernel
theorem d_Mo_targets_63 : decode b_Mo_targets 63 = .ok (.ifCond .eq 7, 3) := by decide +kernel
theorem d_Mo_targets_66 : decode b_Mo_targets 66 = .ok (.iconst 1, 1) := by decide +kernel
theorem d_Mo_targets_67 : decode b_Mo_targets 67 = .ok (.goto 4, 3) := by decide +kernel
theorem d_Mo_targets_70 : decode b_Mo_targets 70 = .ok (.iconst 0, 1) := by decide +kernel
theorem d_Mo_targets_71 : decode b_Mo_targets 71 = .ok (.iadd, 1) := by decide +kernel
theorem d_Mo_targets_72 : decode b_Mo_targets 72 = .ok (.istore_n 3, 1) := by decide +kernel
theorem d_Mo_targets_73 : decode b_Mo_targets 73 = .ok (.iinc 4 1, 3) := by decide +kernel
theorem d_Mo_targets_76 : decode b_Mo_targets 76 = .ok (.goto (-35), 3) := by decide +kernel
theorem d_Mo_targets_79 : decode b_Mo_targets 79 = .ok (.iload_n 3, 1) := by decide +kernel
theorem d_Mo_targets_80 : decode b_Mo_targets 80 = .ok (.ireturn, 1) := by decide +kernel
theorem d_Mo_run_0 : decode b_Mo_run 0 = .ok (.aload_n 0, 1) := by decide +kernel
theorem d_Mo_run_1 : decode b_Mo_run 1 = .ok (.getfield 107, 3) := by decide +kernel
theorem d_Mo_run_4 : decode b_Mo_run 4 = .ok (.ifCond .eq 13, 3) := by decide +kernel
theorem d_Mo_run_7 : decode b_Mo_run 7 = .ok (.iload_n 2, 1) := by decide +kernel
theorem d_Mo_run_8 : decode b_Mo_run 8 = .ok (.sipush 2000, 3) := by decide +kernel
theorem d_Mo_run_11 : decode b_Mo_run 11 = .ok (.invokestatic 118, 3) := by decide +kernel
theorem d_Mo_run_14 : decode b_Mo_run 14 = .ok (.ifCond .ne 5, 3) := by decide +kernel
theorem d_Mo_run_17 : decode b_Mo_run 17 = .ok (.iconst (-1), 1) := by decide +kernel
theorem d_Mo_run_18 : decode b_Mo_run 18 = .ok (.ireturn, 1) := by decide +kernel
theorem d_Mo_run_19 : decode b_Mo_run 19 = .ok (.aload_n 0, 1) := by decide +kernel
theorem d_Mo_run_20 : decode b_Mo_run 20 = .ok (.iconst 1, 1) := by decide +kernel
theorem d_Mo_run_21 : decode b_Mo_run 21 = .ok (.putfield 111, 3) := by decide +kernel
theorem d_Mo_run_24 : decode b_Mo_run 24 = .ok (.aload_n 0, 1) := by decide +kernel
theorem d_Mo_run_25 : decode b_Mo_run 25 = .ok (.iconst 0, 1) := by decide +kernel
theorem d_Mo_run_26 : decode b_Mo_run 26 = .ok (.putfield 211, 3) := by decide +kernel
theorem d_Mo_run_29 : decode b_Mo_run 29 = .ok (.aload_n 0, 1) := by decide +kernel
theorem d_Mo_run_30 : decode b_Mo_run 30 = .ok (.iconst (-1), 1) := by decide +kernel
theorem d_Mo_run_31 : decode b_Mo_run 31 = .ok (.putfield 214, 3) := by decide +kernel
theorem d_Mo_run_34 : decode b_Mo_run 34 = .ok (.aload_n 0, 1) := by decide +kernel
theorem d_Mo_run_35 : decode b_Mo_run 35 = .ok (.iconst 0, 1) := by decide +kernel
theorem d_Mo_run_36 : decode b_Mo_run 36 = .ok (.putfield 217, 3) := by decide +kernel
theorem d_Mo_run_39 : decode b_Mo_run 39 = .ok (.aload_n 0, 1) := by decide +kernel
theorem d_Mo_run_40 : decode b_Mo_run 40 = .ok (.iconst 0, 1) := by decide +kernel
theorem d_Mo_run_41 : decode b_Mo_run 41 = .ok (.putfield 220, 3) := by decide +kernel
theorem d_Mo_run_44 : decode b_Mo_run 44 = .ok (.aload_n 0, 1) := by decide +kernel
theorem d_Mo_run_45 : decode b_Mo_run 45 = .ok (.iload_n 2, 1) := by decide +kernel
theorem d_Mo_run_46 : decode b_Mo_run 46 = .ok (.putfield 223, 3) := by decide +kernel
theorem d_Mo_run_49 : decode b_Mo_run 49 = .ok (.aload_n 0, 1) := by decide +kernel
theorem d_Mo_run_50 : decode b_Mo_run 50 = .ok (.iconst 0, 1) := by decide +kernel
theorem d_Mo_run_51 : decode b_Mo_run 51 = .ok (.putfield 226, 3) := by decide +kernel
theorem d_Mo_run_54 : decode b_Mo_run 54 = .ok (.aload_n 0, 1) := by decide +kernel
theorem d_Mo_run_55 : decode b_Mo_run 55 = .ok (.iconst 0, 1) := by decide +kernel
theorem d_Mo_run_56 : decode b_Mo_run 56 = .ok (.putfield 229, 3) := by decide +kernel
theorem d_Mo_run_59 : decode b_Mo_run 59 = .ok (.aload_n 0, 1) := by decide +kernel
theorem d_Mo_run_60 : decode b_Mo_run 60 = .ok (.iconst 0, 1) := by decide +kernel
theorem d_Mo_run_61 : decode b_Mo_run 61 = .ok (.putfield 232, 3) := by decide +kernel
theorem d_Mo_run_64 : decode b_Mo_run 64 = .ok (.aload_n 0, 1) := by decide +kernel
theorem d_Mo_run_65 : decode b_Mo_run 65 = .ok (.iconst 0, 1) := by decide +kernel
theorem d_Mo_run_66 : decode b_Mo_run 66 = .ok (.putfield 235, 3) := by decide +kernel
theorem d_Mo_run_69 : decode b_Mo_run 69 = .ok (.iconst 0, 1) := by decide +kernel
theorem d_Mo_run_70 : decode b_Mo_run 70 = .ok (.istore_n 3, 1) := by decide +kernel
theorem d_Mo_run_71 : decode b_Mo_run 71 = .ok (.iload_n 3, 1) := by decide +kernel
theorem d_Mo_run_72 : decode b_Mo_run 72 = .ok (.bipush 6, 2) := by decide +kernel
theorem d_Mo_run_74 : decode b_Mo_run 74 = .ok (.if_icmp .ge 23, 3) := by decide +kernel
theorem d_Mo_run_77 : decode b_Mo_run 77 = .ok (.aload_n 0, 1) := by decide +kernel
theorem d_Mo_run_78 : decode b_Mo_run 78 = .ok (.getfield 98, 3) := by decide +kernel
theorem d_Mo_run_81 : decode b_Mo_run 81 = .ok (.iload_n 3, 1) := by decide +kernel
theorem d_Mo_run_82 : decode b_Mo_run 82 = .ok (.iconst 0, 1) := by decide +kernel
theorem d_Mo_run_83 : decode b_Mo_run 83 = .ok (.iastore, 1) := by decide +kernel
theorem d_Mo_run_84 : decode b_Mo_run 84 = .ok (.aload_n 0, 1) := by decide +kernel
theorem d_Mo_run_85 : decode b_Mo_run 85 = .ok (.getfield 101, 3) := by decide +kernel
theorem d_Mo_run_88 : decode b_Mo_run 88 = .ok (.iload_n 3, 1) := by decide +kernel
theorem d_Mo_run_89 : decode b_Mo_run 89 = .ok (.iconst (-1), 1) := by decide +kernel
theorem d_Mo_run_90 : decode b_Mo_run 90 = .ok (.iastore, 1) := by decide +kernel
theorem d_Mo_run_91 : decode b_Mo_run 91 = .ok (.iinc 3 1, 3) := by decide +kernel
theorem d_Mo_run_94 : decode b_Mo_run 94 = .ok (.goto (-23), 3) := by decide +kernel
theorem d_Mo_run_97 : decode b_Mo_run 97 = .ok (.iconst 0, 1) := by decide +kernel
theorem d_Mo_run_98 : decode b_Mo_run 98 = .ok (.istore_n 3, 1) := by decide +kernel
theorem d_Mo_run_99 : decode b_Mo_run 99 = .ok (.iload_n 3, 1) := by decide +kernel
theorem d_Mo_run_100 : decode b_Mo_run 100 = .ok (.sipush 2100, 3) := by decide +kernel
theorem d_Mo_run_103 : decode b_Mo_run 103 = .ok (.if_icmp .ge 35, 3) := by decide +kernel
theorem d_Mo_run_106 : decode b_Mo_run 106 = .ok (.aload_n 0, 1) := by decide +kernel
theorem d_Mo_run_107 : decode b_Mo_run 107 = .ok (.getfield 214, 3) := by decide +kernel
theorem d_Mo_run_110 : decode b_Mo_run 110 = .ok (.ifCond .ge 28, 3) := by decide +kernel
theorem d_Mo_run_113 : decode b_Mo_run 113 = .ok (.aload_n 0, 1) := by decide +kernel
theorem d_Mo_run_114 : decode b_Mo_run 114 = .ok (.getfield 226, 3) := by decide +kernel
theorem d_Mo_run_117 : decode b_Mo_run 117 = .ok (.ifCond .le 10, 3) := by decide +kernel
theorem d_Mo_run_120 : decode b_Mo_run 120 = .ok (.aload_n 0, 1) := by decide +kernel
theorem d_Mo_run_121 : decode b_Mo_run 121 = .ok (.invokevirtual 238, 3) := by decide +kernel
theorem d_Mo_run_124 : decode b_Mo_run 124 = .ok (.goto 8, 3) := by decide +kernel
theorem d_Mo_run_127 : decode b_Mo_run 127 = .ok (.aload_n 0, 1) := by decide +kernel
theorem d_Mo_run_128 : decode b_Mo_run 128 = .ok (.iload_n 1, 1) := by decide +kernel
theorem d_Mo_run_129 : decode b_Mo_run 129 = .ok (.invokevirtual 241, 3) := by decide +kernel
theorem d_Mo_run_132 : decode b_Mo_run 132 = .ok (.iinc 3 1, 3) := by decide +kernel
theorem d_Mo_run_135 : decode b_Mo_run 135 = .ok (.goto (-36), 3) := by decide +kernel
theorem d_Mo_run_138 : decode b_Mo_run 138 = .ok (.aload_n 0, 1) := by decide +kernel
theorem d_Mo_run_139 : decode b_Mo_run 139 = .ok (.getfield 214, 3) := by decide +kernel
theorem d_Mo_run_142 : decode b_Mo_run 142 = .ok (.ireturn, 1) := by decide +kernel
theorem d_Mo_instruct_0 : decode b_Mo_instruct 0 = .ok (.aload_n 0, 1) := by decide +kernel
theorem d_Mo_instruct_1 : decode b_Mo_instruct 1 = .ok (.getfield 226, 3) := by decide +kernel
theorem d_Mo_instruct_4 : decode b_Mo_instruct 4 = .ok (.iconst 1, 1) := by decide +kernel
theorem d_Mo_instruct_5 : decode b_Mo_instruct 5 = .ok (.isub, 1) := by decide +kernel
theorem d_Mo_instruct_6 : decode b_Mo_instruct 6 = .ok (.istore_n 1, 1) := by decide +kernel
theorem d_Mo_instruct_7 : decode b_Mo_instruct 7 = .ok (.aload_n 0, 1) := by decide +kernel
theorem d_Mo_instruct_8 : decode b_Mo_instruct 8 = .ok (.getfield 83, 3) := by decide +kernel
theorem d_Mo_instruct_11 : decode b_Mo_instruct 11 = .ok (.iload_n 1, 1) := by decide +kernel
theorem d_Mo_instruct_12 : decode b_Mo_instruct 12 = .ok (.baload, 1) := by decide +kernel
theorem d_Mo_instruct_13 : decode b_Mo_instruct 13 = .ok (.ifCond .ne 20, 3) := by decide +kernel
theorem d_Mo_instruct_16 : decode b_Mo_instruct 16 = .ok (.aload_n 0, 1) := by decide +kernel
theorem d_Mo_instruct_17 : decode b_Mo_instruct 17 = .ok (.getfield 220, 3) := by decide +kernel
theorem d_Mo_instruct_20 : decode b_Mo_instruct 20 = .ok (.aload_n 0, 1) := by decide +kernel
theorem d_Mo_instruct_21 : decode b_Mo_instruct 21 = .ok (.getfield 223, 3) := by decide +kernel
theorem d_Mo_instruct_24 : decode b_Mo_instruct 24 = .ok (.if_icmp .ne 9, 3) := by decide +kernel
theorem d_Mo_instruct_27 : decode b_Mo_instruct 27 = .ok (.aload_n 0, 1) := by decide +kernel
theorem d_Mo_instruct_28 : decode b_Mo_instruct 28 = .ok (.iconst 2, 1) := by decide +kernel
theorem d_Mo_instruct_29 : decode b_Mo_instruct 29 = .ok (.putfield 214, 3) := by decide +kernel
theorem d_Mo_instruct_32 : decode b_Mo_instruct 32 = .ok (.return_, 1) := by decide +kernel
theorem d_Mo_instruct_33 : decode b_Mo_instruct 33 = .ok (.aload_n 0, 1) := by decide +kernel
theorem d_Mo_instruct_34 : decode b_Mo_instruct 34 = .ok (.dup, 1) := by decide +kernel
theorem d_Mo_instruct_35 : decode b_Mo_instruct 35 = .ok (.getfield 220, 3) := by decide +kernel
theorem d_Mo_instruct_38 : decode b_Mo_instruct 38 = .ok (.aload_n 0, 1) := by decide +kernel
theorem d_Mo_instruct_39 : decode b_Mo_instruct 39 = .ok (.getfield 83, 3) := by decide +kernel
theorem d_Mo_instruct_42 : decode b_Mo_instruct 42 = .ok (.iload_n 1, 1) := by decide +kernel
theorem d_Mo_instruct_43 : decode b_Mo_instruct 43 = .ok (.baload, 1) := by decide +kernel
theorem d_Mo_instruct_44 : decode b_Mo_instruct 44 = .ok (.ifCond .eq 7, 3) := by decide +kernel
theorem d_Mo_instruct_47 : decode b_Mo_instruct 47 = .ok (.iconst 0, 1) := by decide +kernel
theorem d_Mo_instruct_48 : decode b_Mo_instruct 48 = .ok (.goto 4, 3) := by decide +kernel
theorem d_Mo_instruct_51 : decode b_Mo_instruct 51 = .ok (.iconst 1, 1) := by decide +kernel
theorem d_Mo_instruct_52 : decode b_Mo_instruct 52 = .ok (.iadd, 1) := by decide +kernel
theorem d_Mo_instruct_53 : decode b_Mo_instruct 53 = .ok (.putfield 220, 3) := by decide +kernel
theorem d_Mo_instruct_56 : decode b_Mo_instruct 56 = .ok (.aload_n 0, 1) := by decide +kernel
theorem d_Mo_instruct_57 : decode b_Mo_instruct 57 = .ok (.getfield 83, 3) := by decide +kernel
theorem d_Mo_instruct_60 : decode b_Mo_instruct 60 = .ok (.iload_n 1, 1) := by decide +kernel
theorem d_Mo_instruct_61 : decode b_Mo_instruct 61 = .ok (.iconst 0, 1) := by decide +kernel
theorem d_Mo_instruct_62 : decode b_Mo_instruct 62 = .ok (.bastore, 1) := by decide +kernel
theorem d_Mo_instruct_63 : decode b_Mo_instruct 63 = .ok (.bipush 20, 2) := by decide +kernel
theorem d_Mo_instruct_65 : decode b_Mo_instruct 65 = .ok (.aload_n 0, 1) := by decide +kernel
theorem d_Mo_instruct_66 : decode b_Mo_instruct 66 = .ok (.getfield 71, 3) := by decide +kernel
theorem d_Mo_instruct_69 : decode b_Mo_instruct 69 = .ok (.iload_n 1, 1) := by decide +kernel
theorem d_Mo_instruct_70 : decode b_Mo_instruct 70 = .ok (.iaload, 1) := by decide +kernel
theorem d_Mo_instruct_71 : decode b_Mo_instruct 71 = .ok (.imul, 1) := by decide +kernel
theorem d_Mo_instruct_72 : decode b_Mo_instruct 72 = .ok (.aload_n 0, 1) := by decide +kernel
theorem d_Mo_instruct_73 : decode b_Mo_instruct 73 = .ok (.getfield 74, 3) := by decide +kernel
theorem d_Mo_instruct_76 : decode b_Mo_instruct 76 = .ok (.iload_n 1, 1) := by decide +kernel
theorem d_Mo_instruct_77 : decode b_Mo_instruct 77 = .ok (.iaload, 1) := by decide +kernel
theorem d_Mo_instruct_78 : decode b_Mo_instruct 78 = .ok (.iadd, 1) := by decide +kernel
theorem d_Mo_instruct_79 : decode b_Mo_instruct 79 = .ok (.istore_n 2, 1) := by decide +kernel
theorem d_Mo_instruct_80 : decode b_Mo_instruct 80 = .ok (.aload_n 0, 1) := by decide +kernel
theorem d_Mo_instruct_81 : decode b_Mo_instruct 81 = .ok (.getfield 31, 3) := by decide +kernel
theorem d_Mo_instruct_84 : decode b_Mo_instruct 84 = .ok (.iload_n 2, 1) := by decide +kernel
theorem d_Mo_instruct_85 : decode b_Mo_instruct 85 = .ok (.iaload, 1) := by decide +kernel
theorem d_Mo_instruct_86 : decode b_Mo_instruct 86 = .ok (.istore_n 3, 1) := by decide +kernel
theorem d_Mo_instruct_87 : decode b_Mo_instruct 87 = .ok (.aload_n 0, 1) := by decide +kernel
theorem d_Mo_instruct_88 : decode b_Mo_instruct 88 = .ok (.getfield 34, 3) := by decide +kernel
theorem d_Mo_instruct_91 : decode b_Mo_instruct 91 = .ok (.iload_n 2, 1) := by decide +kernel
theorem d_Mo_instruct_92 : decode b_Mo_instruct 92 = .ok (.iaload, 1) := by decide +kernel
theorem d_Mo_instruct_93 : decode b_Mo_instruct 93 = .ok (.istore 4, 2) := by decide +kernel
theorem d_Mo_instruct_95 : decode b_Mo_instruct 95 = .ok (.iload_n 3, 1) := by decide +kernel
theorem d_Mo_instruct_96 : decode b_Mo_instruct 96 = .ok (.bipush 11, 2) := by decide +kernel
theorem d_Mo_instruct_98 : decode b_Mo_instruct 98 = .ok (.if_icmp .eq 15, 3) := by decide +kernel
theorem d_Mo_instruct_101 : decode b_Mo_instruct 101 = .ok (.iload_n 3, 1) := by decide +kernel
theorem d_Mo_instruct_102 : decode b_Mo_instruct 102 = .ok (.bipush 14, 2) := by decide +kernel
theorem d_Mo_instruct_104 : decode b_Mo_instruct 104 = .ok (.if_icmp .eq 9, 3) := by decide +kernel
theorem d_Mo_instruct_107 : decode b_Mo_instruct 107 = .ok (.iload_n 3, 1) := by decide +kernel
theorem d_Mo_instruct_108 : decode b_Mo_instruct 108 = .ok (.bipush 15, 2) := by decide +kernel
theorem d_Mo_instruct_110 : decode b_Mo_instruct 110 = .ok (.if_icmp .ne 8, 3) := by decide +kernel
theorem d_Mo_instruct_113 : decode b_Mo_instruct 113 = .ok (.iload 4, 2) := by decide +kernel
theorem d_Mo_instruct_115 : decode b_Mo_instruct 115 = .ok (.goto 20, 3) := by decide +kernel
theorem d_Mo_instruct_118 : decode b_Mo_instruct 118 = .ok (.iload_n 3, 1) := by decide +kernel
theorem d_Mo_instruct_119 : decode b_Mo_instruct 119 = .ok (.bipush 16, 2) := by decide +kernel
theorem d_Mo_instruct_121 : decode b_Mo_instruct 121 = .ok (.if_icmp .ne 13, 3) := by decide +kernel
theorem d_Mo_instruct_124 : decode b_Mo_instruct 124 = .ok (.aload_n 0, 1) := by decide +kernel
theorem d_Mo_instruct_125 : decode b_Mo_instruct 125 = .ok (.getfield 19, 3) := by decide +kernel
theorem d_Mo_instruct_128 : decode b_Mo_instruct 128 = .ok (.iload 4, 2) := by decide +kernel
theorem d_Mo_instruct_130 : decode b_Mo_instruct 130 = .ok (.iaload, 1) := by decide +kernel
theorem d_Mo_instruct_131 : decode b_Mo_instruct 131 = .ok (.goto 4, 3) := by decide +kernel
theorem d_Mo_instruct_134 : decode b_Mo_instruct 134 = .ok (.iconst (-1), 1) := by decide +kernel
theorem d_Mo_instruct_135 : decode b_Mo_instruct 135 = .ok (.istore 5, 2) := by decide +kernel
theorem d_Mo_instruct_137 : decode b_Mo_instruct 137 = .ok (.iload 5, 2) := by decide +kernel
theorem d_Mo_instruct_139 : decode b_Mo_instruct 139 = .ok (.ifCond .lt 12, 3) := by decide +kernel
theorem d_Mo_instruct_142 : decode b_Mo_instruct 142 = .ok (.aload_n 0, 1) := by decide +kernel
theorem d_Mo_instruct_143 : decode b_Mo_instruct 143 = .ok (.iload 5, 2) := by decide +kernel
theorem d_Mo_instruct_145 : decode b_Mo_instruct 145 = .ok (.invokevirtual 244, 3) := by decide +kernel
theorem d_Mo_instruct_148 : decode b_Mo_instruct 148 = .ok (.ifCond .eq 7, 3) := by decide +kernel
theorem d_Mo_instruct_151 : decode b_Mo_instruct 151 = .ok (.iconst 1, 1) := by decide +kernel
theorem d_Mo_instruct_152 : decode b_Mo_instruct 152 = .ok (.goto 4, 3) := by decide +kernel
theorem d_Mo_instruct_155 : decode b_Mo_instruct 155 = .ok (.iconst 0, 1) := by decide +kernel
theorem d_Mo_instruct_156 : decode b_Mo_instruct 156 = .ok (.istore 6, 2) := by decide +kernel
theorem d_Mo_instruct_158 : decode b_Mo_instruct 158 = .ok (.iload 6, 2) := by decide +kernel
theorem d_Mo_instruct_160 : decode b_Mo_instruct 160 = .ok (.ifCond .ne 4, 3) := by decide +kernel
theorem d_Mo_instruct_163 : decode b_Mo_instruct 163 = .ok (.return_, 1) := by decide +kernel
theorem d_Mo_instruct_164 : decode b_Mo_instruct 164 = .ok (.iload_n 3, 1) := by decide +kernel
theorem d_Mo_instruct_165 : decode b_Mo_instruct 165 = .ok (.bipush 16, 2) := by decide +kernel
theorem d_Mo_instruct_167 : decode b_Mo_instruct 167 = .ok (.if_icmp .eq 9, 3) := by decide +kernel
theorem d_Mo_instruct_170 : decode b_Mo_instruct 170 = .ok (.iload_n 3, 1) := by decide +kernel
theorem d_Mo_instruct_171 : decode b_Mo_instruct 171 = .ok (.bipush 17, 2) := by decide +kernel
theorem d_Mo_instruct_173 : decode b_Mo_instruct 173 = .ok (.if_icmp .ne 14, 3) := by decide +kernel
theorem d_Mo_instruct_176 : decode b_Mo_instruct 176 = .ok (.aload_n 0, 1) := by decide +kernel
theorem d_Mo_instruct_177 : decode b_Mo_instruct 177 = .ok (.iload_n 1, 1) := by decide +kernel
theorem d_Mo_instruct_178 : decode b_Mo_instruct 178 = .ok (.iload_n 3, 1) := by decide +kernel
theorem d_Mo_instruct_179 : decode b_Mo_instruct 179 = .ok (.iload 4, 2) := by decide +kernel
theorem d_Mo_instruct_181 : decode b_Mo_instruct 181 = .ok (.invokevirtual 254, 3) := by decide +kernel
theorem d_Mo_instruct_184 : decode b_Mo_instruct 184 = .ok (.goto 66, 3) := by decide +kernel
theorem d_Mo_instruct_187 : decode b_Mo_instruct 187 = .ok (.iload_n 3, 1) := by decide +kernel
theorem d_Mo_instruct_188 : decode b_Mo_instruct 188 = .ok (.bipush 22, 2) := by decide +kernel
theorem d_Mo_instruct_190 : decode b_Mo_instruct 190 = .ok (.if_icmp .ne 18, 3) := by decide +kernel
theorem d_Mo_instruct_193 : decode b_Mo_instruct 193 = .ok (.aload_n 0, 1) := by decide +kernel
theorem d_Mo_instruct_194 : decode b_Mo_instruct 194 = .ok (.invokevirtual 258, 3) := by decide +kernel
theorem d_Mo_instruct_197 : decode b_Mo_instruct 197 = .ok (.istore 7, 2) := by decide +kernel
theorem d_Mo_instruct_199 : decode b_Mo_instruct 199 = .ok (.aload_n 0, 1) := by decide +kernel
theorem d_Mo_instruct_200 : decode b_Mo_instruct 200 = .ok (.iload 7, 2) := by decide +kernel
theorem d_Mo_instruct_202 : decode b_Mo_instruct 202 = .ok (.invokevirtual 262, 3) := by decide +kernel
theorem d_Mo_instruct_205 : decode b_Mo_instruct 205 = .ok (.goto 45, 3) := by decide +kernel
theorem d_Mo_instruct_208 : decode b_Mo_instruct 208 = .ok (.iload_n 3, 1) := by decide +kernel
theorem d_Mo_instruct_209 : decode b_Mo_instruct 209 = .ok (.bipush 21, 2) := by decide +kernel
theorem d_Mo_instruct_211 : decode b_Mo_instruct 211 = .ok (.if_icmp .ne 18, 3) := by decide +kernel
theorem d_Mo_instruct_214 : decode b_Mo_instruct 214 = .ok (.aload_n 0, 1) := by decide +kernel
theorem d_Mo_instruct_215 : decode b_Mo_instruct 215 = .ok (.invokevirtual 258, 3) := by decide +kernel
theorem d_Mo_instruct_218 : decode b_Mo_instruct 218 = .ok (.istore 7, 2) := by decide +kernel
theorem d_Mo_instruct_220 : decode b_Mo_instruct 220 = .ok (.aload_n 0, 1) := by decide +kernel
theorem d_Mo_instruct_221 : decode b_Mo_instruct 221 = .ok (.iload 7, 2) := by decide +kernel
theorem d_Mo_instruct_223 : decode b_Mo_instruct 223 = .ok (.invokevirtual 251, 3) := by decide +kernel
theorem d_Mo_instruct_226 : decode b_Mo_instruct 226 = .ok (.goto 24, 3) := by decide +kernel
theorem d_Mo_instruct_229 : decode b_Mo_instruct 229 = .ok (.aload_n 0, 1) := by decide +kernel
theorem d_Mo_instruct_230 : decode b_Mo_instruct 230 = .ok (.iload_n 1, 1) := by decide +kernel
theorem d_Mo_instruct_231 : decode b_Mo_instruct 231 = .ok (.iload_n 3, 1) := by decide +kernel
theorem d_Mo_instruct_232 : decode b_Mo_instruct 232 = .ok (.iload 4, 2) := by decide +kernel
theorem d_Mo_instruct_234 : decode b_Mo_instruct 234 = .ok (.invokevirtual 265, 3) := by decide +kernel
theorem d_Mo_instruct_237 : decode b_Mo_instruct 237 = .ok (.istore 7, 2) := by decide +kernel
theorem d_Mo_instruct_239 : decode b_Mo_instruct 239 = .ok (.iload 7, 2) := by decide +kernel
theorem d_Mo_instruct_241 : decode b_Mo_instruct 241 = .ok (.ifCond .ge 9, 3) := by decide +kernel
theorem d_Mo_instruct_244 : decode b_Mo_instruct 244 = .ok (.aload_n 0, 1) := by decide +kernel
theorem d_Mo_instruct_245 : decode b_Mo_instruct 245 = .ok (.iload 7, 2) := by decide +kernel
theorem d_Mo_instruct_247 : decode b_Mo_instruct 247 = .ok (.invokevirtual 251, 3) := by decide +kernel
theorem d_Mo_instruct_250 : decode b_Mo_instruct 250 = .ok (.return_, 1) := by decide +kernel
theorem d_Mo_trigger_0 : decode b_Mo_trigger 0 = .ok (.iconst 0, 1) := by decide +kernel
theorem d_Mo_trigger_1 : decode b_Mo_trigger 1 = .ok (.istore_n 2, 1) := by decide +kernel
theorem d_Mo_trigger_2 : decode b_Mo_trigger 2 = .ok (.iload_n 2, 1) := by decide +kernel
theorem d_Mo_trigger_3 : decode b_Mo_trigger 3 = .ok (.bipush 7, 2) := by decide +kernel
theorem d_Mo_trigger_5 : decode b_Mo_trigger 5 = .ok (.if_icmp .ge 133, 3) := by decide +kernel
theorem d_Mo_trigger_8 : decode b_Mo_trigger 8 = .ok (.iconst (-1), 1) := by decide +kernel
theorem d_Mo_trigger_9 : decode b_Mo_trigger 9 = .ok (.istore_n 3, 1) := by decide +kernel
theorem d_Mo_trigger_10 : decode b_Mo_trigger 10 = .ok (.iload_n 1, 1) := by decide +kernel
theorem d_Mo_trigger_11 : decode b_Mo_trigger 11 = .ok (.istore 4, 2) := by decide +kernel
theorem d_Mo_trigger_13 : decode b_Mo_trigger 13 = .ok (.iload 4, 2) := by decide +kernel
theorem d_Mo_trigger_15 : decode b_Mo_trigger 15 = .ok (.ifCond .lt 32, 3) := by decide +kernel
theorem d_Mo_trigger_18 : decode b_Mo_trigger 18 = .ok (.aload_n 0, 1) := by decide +kernel
theorem d_Mo_trigger_19 : decode b_Mo_trigger 19 = .ok (.getfield 101, 3) := by decide +kernel
theorem d_Mo_trigger_22 : decode b_Mo_trigger 22 = .ok (.iload 4, 2) := by decide +kernel
theorem d_Mo_trigger_24 : decode b_Mo_trigger 24 = .ok (.iaload, 1) := by decide +kernel
theorem d_Mo_trigger_25 : decode b_Mo_trigger 25 = .ok (.ifCond .ge 8, 3) := by decide +kernel
theorem d_Mo_trigger_28 : decode b_Mo_trigger 28 = .ok (.iload 4, 2) := by decide +kernel
theorem d_Mo_trigger_30 : decode b_Mo_trigger 30 = .ok (.goto 4, 3) := by decide +kernel
theorem d_Mo_trigger_33 : decode b_Mo_trigger 33 = .ok (.iload_n 3, 1) := by decide +kernel
theorem d_Mo_trigger_34 : decode b_Mo_trigger 34 = .ok (.istore_n 3, 1) := by decide +kernel
theorem d_Mo_trigger_35 : decode b_Mo_trigger 35 = .ok (.aload_n 0, 1) := by decide +kernel
theorem d_Mo_trigger_36 : decode b_Mo_trigger 36 = .ok (.getfield 7, 3) := by decide +kernel
theorem d_Mo_trigger_39 : decode b_Mo_trigger 39 = .ok (.iload 4, 2) := by decide +kernel
theorem d_Mo_trigger_41 : decode b_Mo_trigger 41 = .ok (.iaload, 1) := by decide +kernel
theorem d_Mo_trigger_42 : decode b_Mo_trigger 42 = .ok (.istore 4, 2) := by decide +kernel
theorem d_Mo_trigger_44 : decode b_Mo_trigger 44 = .ok (.goto (-31), 3) := by decide +kernel
theorem d_Mo_trigger_47 : decode b_Mo_trigger 47 = .ok (.iload_n 3, 1) := by decide +kernel
theorem d_Mo_trigger_48 : decode b_Mo_trigger 48 = .ok (.ifCond .ge 5, 3) := by decide +kernel
theorem d_Mo_trigger_51 : decode b_Mo_trigger 51 = .ok (.iconst 1, 1) := by decide +kernel
theorem d_Mo_trigger_52 : decode b_Mo_trigger 52 = .ok (.ireturn, 1) := by decide +kernel
theorem d_Mo_trigger_53 : decode b_Mo_trigger 53 = .ok (.aload_n 0, 1) := by decide +kernel
theorem d_Mo_trigger_54 : decode b_Mo_trigger 54 = .ok (.getfield 101, 3) := by decide +kernel
theorem d_Mo_trigger_57 : decode b_Mo_trigger 57 = .ok (.iload_n 3, 1) := by decide +kernel
theorem d_Mo_trigger_58 : decode b_Mo_trigger 58 = .ok (.aload_n 0, 1) := by decide +kernel
theorem d_Mo_trigger_59 : decode b_Mo_trigger 59 = .ok (.getfield 232, 3) := by decide +kernel
theorem d_Mo_trigger_62 : decode b_Mo_trigger 62 = .ok (.iastore, 1) := by decide +kernel
theorem d_Mo_trigger_63 : decode b_Mo_trigger 63 = .ok (.aload_n 0, 1) := by decide +kernel
theorem d_Mo_trigger_64 : decode b_Mo_trigger 64 = .ok (.dup, 1) := by decide +kernel
