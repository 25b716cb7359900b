theorem d_Fr_pop_1 : decode b_Fr_pop 1 = .ok (.getfield 21, 3) := by decide +kernel
theorem d_Fr_pop_4 : decode b_Fr_pop 4 = .ok (.ifCond .ne 6, 3) := by decide +kernel
theorem d_Fr_pop_7 : decode b_Fr_pop 7 = .ok (.bipush 8, 2) := by decide +kernel
theorem d_Fr_pop_9 : decode b_Fr_pop 9 = .ok (.ireturn, 1) := by decide +kernel
theorem d_Fr_pop_10 : decode b_Fr_pop 10 = .ok (.aload_n 0, 1) := by decide +kernel
theorem d_Fr_pop_11 : decode b_Fr_pop 11 = .ok (.dup, 1) := by decide +kernel
theorem d_Fr_pop_12 : decode b_Fr_pop 12 = .ok (.getfield 21, 3) := by decide +kernel
theorem d_Fr_pop_15 : decode b_Fr_pop 15 = .ok (.iconst 1, 1) := by decide +kernel
theorem d_Fr_pop_16 : decode b_Fr_pop 16 = .ok (.isub, 1) := by decide +kernel
theorem d_Fr_pop_17 : decode b_Fr_pop 17 = .ok (.putfield 21, 3) := by decide +kernel
theorem d_Fr_pop_20 : decode b_Fr_pop 20 = .ok (.aload_n 0, 1) := by decide +kernel
theorem d_Fr_pop_21 : decode b_Fr_pop 21 = .ok (.getfield 9, 3) := by decide +kernel
theorem d_Fr_pop_24 : decode b_Fr_pop 24 = .ok (.iconst 4, 1) := by decide +kernel
theorem d_Fr_pop_25 : decode b_Fr_pop 25 = .ok (.aload_n 0, 1) := by decide +kernel
theorem d_Fr_pop_26 : decode b_Fr_pop 26 = .ok (.getfield 21, 3) := by decide +kernel
theorem d_Fr_pop_29 : decode b_Fr_pop 29 = .ok (.iadd, 1) := by decide +kernel
theorem d_Fr_pop_30 : decode b_Fr_pop 30 = .ok (.iaload, 1) := by decide +kernel
theorem d_Fr_pop_31 : decode b_Fr_pop 31 = .ok (.ireturn, 1) := by decide +kernel
theorem d_Ch_takeNumbers_0 : decode b_Ch_takeNumbers 0 = .ok (.iconst 0, 1) := by decide +kernel
theorem d_Ch_takeNumbers_1 : decode b_Ch_takeNumbers 1 = .ok (.istore_n 2, 1) := by decide +kernel
theorem d_Ch_takeNumbers_2 : decode b_Ch_takeNumbers 2 = .ok (.iload_n 2, 1) := by decide +kernel
theorem d_Ch_takeNumbers_3 : decode b_Ch_takeNumbers 3 = .ok (.iload_n 1, 1) := by decide +kernel
theorem d_Ch_takeNumbers_4 : decode b_Ch_takeNumbers 4 = .ok (.if_icmp .ge 27, 3) := by decide +kernel
theorem d_Ch_takeNumbers_7 : decode b_Ch_takeNumbers 7 = .ok (.aload_n 0, 1) := by decide +kernel
theorem d_Ch_takeNumbers_8 : decode b_Ch_takeNumbers 8 = .ok (.aload_n 0, 1) := by decide +kernel
theorem d_Ch_takeNumbers_9 : decode b_Ch_takeNumbers 9 = .ok (.invokevirtual 142, 3) := by decide +kernel
theorem d_Ch_takeNumbers_12 : decode b_Ch_takeNumbers 12 = .ok (.bipush 9, 2) := by decide +kernel
theorem d_Ch_takeNumbers_14 : decode b_Ch_takeNumbers 14 = .ok (.if_icmp .ne 7, 3) := by decide +kernel
theorem d_Ch_takeNumbers_17 : decode b_Ch_takeNumbers 17 = .ok (.iconst 1, 1) := by decide +kernel
theorem d_Ch_takeNumbers_18 : decode b_Ch_takeNumbers 18 = .ok (.goto 4, 3) := by decide +kernel
theorem d_Ch_takeNumbers_21 : decode b_Ch_takeNumbers 21 = .ok (.iconst 0, 1) := by decide +kernel
theorem d_Ch_takeNumbers_22 : decode b_Ch_takeNumbers 22 = .ok (.invokevirtual 126, 3) := by decide +kernel
theorem d_Ch_takeNumbers_25 : decode b_Ch_takeNumbers 25 = .ok (.iinc 2 1, 3) := by decide +kernel
theorem d_Ch_takeNumbers_28 : decode b_Ch_takeNumbers 28 = .ok (.goto (-26), 3) := by decide +kernel
theorem d_Ch_takeNumbers_31 : decode b_Ch_takeNumbers 31 = .ok (.return_, 1) := by decide +kernel
theorem d_Ch_applyToObject_0 : decode b_Ch_applyToObject 0 = .ok (.iload_n 1, 1) := by decide +kernel
theorem d_Ch_applyToObject_1 : decode b_Ch_applyToObject 1 = .ok (.tableswitch 178 12 19 #[47, 80, 178, 178, 178, 112, 151, 164], 47) := by decide +kernel
theorem d_Ch_applyToObject_48 : decode b_Ch_applyToObject 48 = .ok (.aload_n 0, 1) := by decide +kernel
theorem d_Ch_applyToObject_49 : decode b_Ch_applyToObject 49 = .ok (.iload_n 2, 1) := by decide +kernel
theorem d_Ch_applyToObject_50 : decode b_Ch_applyToObject 50 = .ok (.aload_n 0, 1) := by decide +kernel
theorem d_Ch_applyToObject_51 : decode b_Ch_applyToObject 51 = .ok (.getfield 25, 3) := by decide +kernel
theorem d_Ch_applyToObject_54 : decode b_Ch_applyToObject 54 = .ok (.aload_n 0, 1) := by decide +kernel
theorem d_Ch_applyToObject_55 : decode b_Ch_applyToObject 55 = .ok (.invokevirtual 151, 3) := by decide +kernel
theorem d_Ch_applyToObject_58 : decode b_Ch_applyToObject 58 = .ok (.invokevirtual 154, 3) := by decide +kernel
theorem d_Ch_applyToObject_61 : decode b_Ch_applyToObject 61 = .ok (.if_icmp .ge 7, 3) := by decide +kernel
theorem d_Ch_applyToObject_64 : decode b_Ch_applyToObject 64 = .ok (.iconst 1, 1) := by decide +kernel
theorem d_Ch_applyToObject_65 : decode b_Ch_applyToObject 65 = .ok (.goto 4, 3) := by decide +kernel
theorem d_Ch_applyToObject_68 : decode b_Ch_applyToObject 68 = .ok (.iconst 0, 1) := by decide +kernel
theorem d_Ch_applyToObject_69 : decode b_Ch_applyToObject 69 = .ok (.invokevirtual 126, 3) := by decide +kernel
theorem d_Ch_applyToObject_72 : decode b_Ch_applyToObject 72 = .ok (.aload_n 0, 1) := by decide +kernel
theorem d_Ch_applyToObject_73 : decode b_Ch_applyToObject 73 = .ok (.bipush 9, 2) := by decide +kernel
theorem d_Ch_applyToObject_75 : decode b_Ch_applyToObject 75 = .ok (.invokevirtual 139, 3) := by decide +kernel
theorem d_Ch_applyToObject_78 : decode b_Ch_applyToObject 78 = .ok (.goto 101, 3) := by decide +kernel
theorem d_Ch_applyToObject_81 : decode b_Ch_applyToObject 81 = .ok (.aload_n 0, 1) := by decide +kernel
theorem d_Ch_applyToObject_82 : decode b_Ch_applyToObject 82 = .ok (.iconst 1, 1) := by decide +kernel
theorem d_Ch_applyToObject_83 : decode b_Ch_applyToObject 83 = .ok (.invokevirtual 145, 3) := by decide +kernel
theorem d_Ch_applyToObject_86 : decode b_Ch_applyToObject 86 = .ok (.aload_n 0, 1) := by decide +kernel
theorem d_Ch_applyToObject_87 : decode b_Ch_applyToObject 87 = .ok (.iload_n 2, 1) := by decide +kernel
theorem d_Ch_applyToObject_88 : decode b_Ch_applyToObject 88 = .ok (.aload_n 0, 1) := by decide +kernel
theorem d_Ch_applyToObject_89 : decode b_Ch_applyToObject 89 = .ok (.getfield 25, 3) := by decide +kernel
theorem d_Ch_applyToObject_92 : decode b_Ch_applyToObject 92 = .ok (.aload_n 0, 1) := by decide +kernel
theorem d_Ch_applyToObject_93 : decode b_Ch_applyToObject 93 = .ok (.invokevirtual 151, 3) := by decide +kernel
theorem d_Ch_applyToObject_96 : decode b_Ch_applyToObject 96 = .ok (.invokevirtual 154, 3) := by decide +kernel
theorem d_Ch_applyToObject_99 : decode b_Ch_applyToObject 99 = .ok (.if_icmp .ge 7, 3) := by decide +kernel
theorem d_Ch_applyToObject_102 : decode b_Ch_applyToObject 102 = .ok (.iconst 1, 1) := by decide +kernel
theorem d_Ch_applyToObject_103 : decode b_Ch_applyToObject 103 = .ok (.goto 4, 3) := by decide +kernel
theorem d_Ch_applyToObject_106 : decode b_Ch_applyToObject 106 = .ok (.iconst 0, 1) := by decide +kernel
theorem d_Ch_applyToObject_107 : decode b_Ch_applyToObject 107 = .ok (.invokevirtual 126, 3) := by decide +kernel
theorem d_Ch_applyToObject_110 : decode b_Ch_applyToObject 110 = .ok (.goto 69, 3) := by decide +kernel
theorem d_Ch_applyToObject_113 : decode b_Ch_applyToObject 113 = .ok (.aload_n 0, 1) := by decide +kernel
theorem d_Ch_applyToObject_114 : decode b_Ch_applyToObject 114 = .ok (.iconst 1, 1) := by decide +kernel
theorem d_Ch_applyToObject_115 : decode b_Ch_applyToObject 115 = .ok (.invokevirtual 145, 3) := by decide +kernel
theorem d_Ch_applyToObject_118 : decode b_Ch_applyToObject 118 = .ok (.aload_n 0, 1) := by decide +kernel
theorem d_Ch_applyToObject_119 : decode b_Ch_applyToObject 119 = .ok (.aload_n 0, 1) := by decide +kernel
theorem d_Ch_applyToObject_120 : decode b_Ch_applyToObject 120 = .ok (.getfield 25, 3) := by decide +kernel
theorem d_Ch_applyToObject_123 : decode b_Ch_applyToObject 123 = .ok (.aload_n 0, 1) := by decide +kernel
theorem d_Ch_applyToObject_124 : decode b_Ch_applyToObject 124 = .ok (.invokevirtual 151, 3) := by decide +kernel
theorem d_Ch_applyToObject_127 : decode b_Ch_applyToObject 127 = .ok (.iload_n 2, 1) := by decide +kernel
theorem d_Ch_applyToObject_128 : decode b_Ch_applyToObject 128 = .ok (.invokevirtual 157, 3) := by decide +kernel
theorem d_Ch_applyToObject_131 : decode b_Ch_applyToObject 131 = .ok (.iconst (-1), 1) := by decide +kernel
theorem d_Ch_applyToObject_132 : decode b_Ch_applyToObject 132 = .ok (.if_icmp .eq 7, 3) := by decide +kernel
theorem d_Ch_applyToObject_135 : decode b_Ch_applyToObject 135 = .ok (.iconst 1, 1) := by decide +kernel
theorem d_Ch_applyToObject_136 : decode b_Ch_applyToObject 136 = .ok (.goto 4, 3) := by decide +kernel
theorem d_Ch_applyToObject_139 : decode b_Ch_applyToObject 139 = .ok (.iconst 0, 1) := by decide +kernel
theorem d_Ch_applyToObject_140 : decode b_Ch_applyToObject 140 = .ok (.invokevirtual 126, 3) := by decide +kernel
theorem d_Ch_applyToObject_143 : decode b_Ch_applyToObject 143 = .ok (.aload_n 0, 1) := by decide +kernel
theorem d_Ch_applyToObject_144 : decode b_Ch_applyToObject 144 = .ok (.bipush 9, 2) := by decide +kernel
theorem d_Ch_applyToObject_146 : decode b_Ch_applyToObject 146 = .ok (.invokevirtual 139, 3) := by decide +kernel
theorem d_Ch_applyToObject_149 : decode b_Ch_applyToObject 149 = .ok (.goto 30, 3) := by decide +kernel
theorem d_Ch_applyToObject_152 : decode b_Ch_applyToObject 152 = .ok (.aload_n 0, 1) := by decide +kernel
theorem d_Ch_applyToObject_153 : decode b_Ch_applyToObject 153 = .ok (.invokevirtual 151, 3) := by decide +kernel
theorem d_Ch_applyToObject_156 : decode b_Ch_applyToObject 156 = .ok (.pop, 1) := by decide +kernel
theorem d_Ch_applyToObject_157 : decode b_Ch_applyToObject 157 = .ok (.aload_n 0, 1) := by decide +kernel
theorem d_Ch_applyToObject_158 : decode b_Ch_applyToObject 158 = .ok (.iload_n 2, 1) := by decide +kernel
theorem d_Ch_applyToObject_159 : decode b_Ch_applyToObject 159 = .ok (.invokevirtual 139, 3) := by decide +kernel
theorem d_Ch_applyToObject_162 : decode b_Ch_applyToObject 162 = .ok (.goto 17, 3) := by decide +kernel
theorem d_Ch_applyToObject_165 : decode b_Ch_applyToObject 165 = .ok (.aload_n 0, 1) := by decide +kernel
theorem d_Ch_applyToObject_166 : decode b_Ch_applyToObject 166 = .ok (.invokevirtual 151, 3) := by decide +kernel
theorem d_Ch_applyToObject_169 : decode b_Ch_applyToObject 169 = .ok (.pop, 1) := by decide +kernel
theorem d_Ch_applyToObject_170 : decode b_Ch_applyToObject 170 = .ok (.aload_n 0, 1) := by decide +kernel
theorem d_Ch_applyToObject_171 : decode b_Ch_applyToObject 171 = .ok (.bipush 9, 2) := by decide +kernel
theorem d_Ch_applyToObject_173 : decode b_Ch_applyToObject 173 = .ok (.invokevirtual 139, 3) := by decide +kernel
theorem d_Ch_applyToObject_176 : decode b_Ch_applyToObject 176 = .ok (.goto 3, 3) := by decide +kernel
theorem d_Ch_applyToObject_179 : decode b_Ch_applyToObject 179 = .ok (.return_, 1) := by decide +kernel
theorem d_Ch_takeObject_0 : decode b_Ch_takeObject 0 = .ok (.aload_n 0, 1) := by decide +kernel
theorem d_Ch_takeObject_1 : decode b_Ch_takeObject 1 = .ok (.invokevirtual 142, 3) := by decide +kernel
theorem d_Ch_takeObject_4 : decode b_Ch_takeObject 4 = .ok (.istore_n 1, 1) := by decide +kernel
theorem d_Ch_takeObject_5 : decode b_Ch_takeObject 5 = .ok (.aload_n 0, 1) := by decide +kernel
theorem d_Ch_takeObject_6 : decode b_Ch_takeObject 6 = .ok (.aload_n 0, 1) := by decide +kernel
theorem d_Ch_takeObject_7 : decode b_Ch_takeObject 7 = .ok (.getfield 25, 3) := by decide +kernel
theorem d_Ch_takeObject_10 : decode b_Ch_takeObject 10 = .ok (.iload_n 1, 1) := by decide +kernel
theorem d_Ch_takeObject_11 : decode b_Ch_takeObject 11 = .ok (.invokevirtual 166, 3) := by decide +kernel
theorem d_Ch_takeObject_14 : decode b_Ch_takeObject 14 = .ok (.invokevirtual 126, 3) := by decide +kernel
theorem d_Ch_takeObject_17 : decode b_Ch_takeObject 17 = .ok (.iload_n 1, 1) := by decide +kernel
theorem d_Ch_takeObject_18 : decode b_Ch_takeObject 18 = .ok (.ireturn, 1) := by decide +kernel
theorem d_Pr_answering_0 : decode b_Pr_answering 0 = .ok (.aload_n 0, 1) := by decide +kernel
theorem d_Pr_answering_1 : decode b_Pr_answering 1 = .ok (.iload_n 1, 1) := by decide +kernel
theorem d_Pr_answering_2 : decode b_Pr_answering 2 = .ok (.invokevirtual 56, 3) := by decide +kernel
theorem d_Pr_answering_5 : decode b_Pr_answering 5 = .ok (.ifCond .eq 11, 3) := by decide +kernel
theorem d_Pr_answering_8 : decode b_Pr_answering 8 = .ok (.iload_n 2, 1) := by decide +kernel
theorem d_Pr_answering_9 : decode b_Pr_answering 9 = .ok (.iconst 4, 1) := by decide +kernel
theorem d_Pr_answering_10 : decode b_Pr_answering 10 = .ok (.invokestatic 80, 3) := by decide +kernel
theorem d_Pr_answering_13 : decode b_Pr_answering 13 = .ok (.ifCond .ne 5, 3) := by decide +kernel
theorem d_Pr_answering_16 : decode b_Pr_answering 16 = .ok (.iconst (-1), 1) := by decide +kernel
theorem d_Pr_answering_17 : decode b_Pr_answering 17 = .ok (.ireturn, 1) := by decide +kernel
theorem d_Pr_answering_18 : decode b_Pr_answering 18 = .ok (.iload_n 1, 1) := by decide +kernel
theorem d_Pr_answering_19 : decode b_Pr_answering 19 = .ok (.istore_n 3, 1) := by decide +kernel
theorem d_Pr_answering_20 : decode b_Pr_answering 20 = .ok (.iload_n 3, 1) := by decide +kernel
theorem d_Pr_answering_21 : decode b_Pr_answering 21 = .ok (.ifCond .lt 43, 3) := by decide +kernel
theorem d_Pr_answering_24 : decode b_Pr_answering 24 = .ok (.aload_n 0, 1) := by decide +kernel
theorem d_Pr_answering_25 : decode b_Pr_answering 25 = .ok (.getfield 9, 3) := by decide +kernel
theorem d_Pr_answering_28 : decode b_Pr_answering 28 = .ok (.iload_n 1, 1) := by decide +kernel
theorem d_Pr_answering_29 : decode b_Pr_answering 29 = .ok (.iaload, 1) := by decide +kernel
theorem d_Pr_answering_30 : decode b_Pr_answering 30 = .ok (.iload_n 3, 1) := by decide +kernel
theorem d_Pr_answering_31 : decode b_Pr_answering 31 = .ok (.invokestatic 95, 3) := by decide +kernel
theorem d_Pr_answering_34 : decode b_Pr_answering 34 = .ok (.ifCond .eq 24, 3) := by decide +kernel
theorem d_Pr_answering_37 : decode b_Pr_answering 37 = .ok (.aload_n 0, 1) := by decide +kernel
theorem d_Pr_answering_38 : decode b_Pr_answering 38 = .ok (.getfield 23, 3) := by decide +kernel
theorem d_Pr_answering_41 : decode b_Pr_answering 41 = .ok (.iload_n 3, 1) := by decide +kernel
theorem d_Pr_answering_42 : decode b_Pr_answering 42 = .ok (.aaload, 1) := by decide +kernel
theorem d_Pr_answering_43 : decode b_Pr_answering 43 = .ok (.iload_n 2, 1) := by decide +kernel
theorem d_Pr_answering_44 : decode b_Pr_answering 44 = .ok (.iaload, 1) := by decide +kernel
theorem d_Pr_answering_45 : decode b_Pr_answering 45 = .ok (.iconst (-1), 1) := by decide +kernel
theorem d_Pr_answering_46 : decode b_Pr_answering 46 = .ok (.if_icmp .eq 12, 3) := by decide +kernel
theorem d_Pr_answering_49 : decode b_Pr_answering 49 = .ok (.aload_n 0, 1) := by decide +kernel
theorem d_Pr_answering_50 : decode b_Pr_answering 50 = .ok (.getfield 23, 3) := by decide +kernel
theorem d_Pr_answering_53 : decode b_Pr_answering 53 = .ok (.iload_n 3, 1) := by decide +kernel
theorem d_Pr_answering_54 : decode b_Pr_answering 54 = .ok (.aaload, 1) := by decide +kernel
theorem d_Pr_answering_55 : decode b_Pr_answering 55 = .ok (.iload_n 2, 1) := by decide +kernel
theorem d_Pr_answering_56 : decode b_Pr_answering 56 = .ok (.iaload, 1) := by decide +kernel
theorem d_Pr_answering_57 : decode b_Pr_answering 57 = .ok (.ireturn, 1) := by decide +kernel
theorem d_Pr_answering_58 : decode b_Pr_answering 58 = .ok (.iinc 3 (-1), 3) := by decide +kernel
theorem d_Pr_answering_61 : decode b_Pr_answering 61 = .ok (.goto (-41), 3) := by decide +kernel
theorem d_Pr_answering_64 : decode b_Pr_answering 64 = .ok (.iconst (-1), 1) := by decide +kernel
theorem d_Pr_answering_65 : decode b_Pr_answering 65 = .ok (.ireturn, 1) := by decide +kernel
theorem d_Re_find_0 : decode b_Re_find 0 = .ok (.aload_n 0, 1) := by decide +kernel
theorem d_Re_find_1 : decode b_Re_find 1 = .ok (.iconst 0, 1) := by decide +kernel
theorem d_Re_find_2 : decode b_Re_find 2 = .ok (.putfield 19, 3) := by decide +kernel
theorem d_Re_find_5 : decode b_Re_find 5 = .ok (.aload_n 0, 1) := by decide +kernel
theorem d_Re_find_6 : decode b_Re_find 6 = .ok (.iconst 0, 1) := by decide +kernel
theorem d_Re_find_7 : decode b_Re_find 7 = .ok (.putfield 23, 3) := by decide +kernel
theorem d_Re_find_10 : decode b_Re_find 10 = .ok (.aload_n 0, 1) := by decide +kernel
theorem d_Re_find_11 : decode b_Re_find 11 = .ok (.iconst 0, 1) := by decide +kernel
theorem d_Re_find_12 : decode b_Re_find 12 = .ok (.invokevirtual 26, 3) := by decide +kernel
theorem d_Re_find_15 : decode b_Re_find 15 = .ok (.iconst 1, 1) := by decide +kernel
theorem d_Re_find_16 : decode b_Re_find 16 = .ok (.istore_n 1, 1) := by decide +kernel
theorem d_Re_find_17 : decode b_Re_find 17 = .ok (.iconst 0, 1) := by decide +kernel
theorem d_Re_find_18 : decode b_Re_find 18 = .ok (.istore_n 2, 1) := by decide +kernel
theorem d_Re_find_19 : decode b_Re_find 19 = .ok (.iload_n 2, 1) := by decide +kernel
theorem d_Re_find_20 : decode b_Re_find 20 = .ok (.bipush 16, 2) := by decide +kernel
theorem d_Re_find_22 : decode b_Re_find 22 = .ok (.if_icmp .gt 51, 3) := by decide +kernel
theorem d_Re_find_25 : decode b_Re_find 25 = .ok (.iload_n 1, 1) := by decide +kernel
theorem d_Re_find_26 : decode b_Re_find 26 = .ok (.ifCond .eq 47, 3) := by decide +kernel
theorem d_Re_find_29 : decode b_Re_find 29 = .ok (.aload_n 0, 1) := by decide +kernel
theorem d_Re_find_30 : decode b_Re_find 30 = .ok (.getfield 19, 3) := by decide +kernel
theorem d_Re_find_33 : decode b_Re_find 33 = .ok (.istore_n 3, 1) := by decide +kernel
theorem d_Re_find_34 : decode b_Re_find 34 = .ok (.aload_n 0, 1) := by decide +kernel
theorem d_Re_find_35 : decode b_Re_find 35 = .ok (.getfield 23, 3) := by decide +kernel
theorem d_Re_find_38 : decode b_Re_find 38 = .ok (.istore 4, 2) := by decide +kernel
theorem d_Re_find_40 : decode b_Re_find 40 = .ok (.aload_n 0, 1) := by decide +kernel
theorem d_Re_find_41 : decode b_Re_find 41 = .ok (.invokevirtual 30, 3) := by decide +kernel
theorem d_Re_find_44 : decode b_Re_find 44 = .ok (.aload_n 0, 1) := by decide +kernel
theorem d_Re_find_45 : decode b_Re_find 45 = .ok (.getfield 19, 3) := by decide +kernel
theorem d_Re_find_48 : decode b_Re_find 48 = .ok (.iload_n 3, 1) := by decide +kernel
theorem d_Re_find_49 : decode b_Re_find 49 = .ok (.if_icmp .ne 12, 3) := by decide +kernel
theorem d_Re_find_52 : decode b_Re_find 52 = .ok (.aload_n 0, 1) := by decide +kernel
theorem d_Re_find_53 : decode b_Re_find 53 = .ok (.getfield 23, 3) := by decide +kernel
theorem d_Re_find_56 : decode b_Re_find 56 = .ok (.iload 4, 2) := by decide +kernel
theorem d_Re_find_58 : decode b_Re_find 58 = .ok (.if_icmp .eq 7, 3) := by decide +kernel
theorem d_Re_find_61 : decode b_Re_find 61 = .ok (.iconst 1, 1) := by decide +kernel
theorem d_Re_find_62 : decode b_Re_find 62 = .ok (.goto 4, 3) := by decide +kernel
theorem d_Re_find_65 : decode b_Re_find 65 = .ok (.iconst 0, 1) := by decide +kernel
theorem d_Re_find_66 : decode b_Re_find 66 = .ok (.istore_n 1, 1) := by decide +kernel
theorem d_Re_find_67 : decode b_Re_find 67 = .ok (.iinc 2 1, 3) := by decide +kernel
theorem d_Re_find_70 : decode b_Re_find 70 = .ok (.goto (-51), 3) := by decide +kernel
theorem d_Re_find_73 : decode b_Re_find 73 = .ok (.return_, 1) := by decide +kernel
theorem d_Re_reachCall_0 : decode b_Re_reachCall 0 = .ok (.aload_n 0, 1) := by decide +kernel
theorem d_Re_reachCall_1 : decode b_Re_reachCall 1 = .ok (.dup, 1) := by decide +kernel
theorem d_Re_reachCall_2 : decode b_Re_reachCall 2 = .ok (.getfield 19, 3) := by decide +kernel
theorem d_Re_reachCall_5 : decode b_Re_reachCall 5 = .ok (.iconst 1, 1) := by decide +kernel
theorem d_Re_reachCall_6 : decode b_Re_reachCall 6 = .ok (.iload_n 1, 1) := by decide +kernel
theorem d_Re_reachCall_7 : decode b_Re_reachCall 7 = .ok (.ishl, 1) := by decide +kernel
theorem d_Re_reachCall_8 : decode b_Re_reachCall 8 = .ok (.ior, 1) := by decide +kernel
theorem d_Re_reachCall_9 : decode b_Re_reachCall 9 = .ok (.putfield 19, 3) := by decide +kernel
theorem d_Re_reachCall_12 : decode b_Re_reachCall 12 = .ok (.aload_n 0, 1) := by decide +kernel
theorem d_Re_reachCall_13 : decode b_Re_reachCall 13 = .ok (.aload_n 0, 1) := by decide +kernel
theorem d_Re_reachCall_14 : decode b_Re_reachCall 14 = .ok (.getfield 9, 3) := by decide +kernel
theorem d_Re_reachCall_17 : decode b_Re_reachCall 17 = .ok (.iload_n 1, 1) := by decide +kernel
theorem d_Re_reachCall_18 : decode b_Re_reachCall 18 = .ok (.invokevirtual 88, 3) := by decide +kernel
theorem d_Re_reachCall_21 : decode b_Re_reachCall 21 = .ok (.invokevirtual 82, 3) := by decide +kernel
theorem d_Re_reachCall_24 : decode b_Re_reachCall 24 = .ok (.return_, 1) := by decide +kernel
theorem d_Re_touch_0 : decode b_Re_touch 0 = .ok (.iconst 0, 1) := by decide +kernel
theorem d_Re_touch_1 : decode b_Re_touch 1 = .ok (.istore_n 2, 1) := by decide +kernel
theorem d_Re_touch_2 : decode b_Re_touch 2 = .ok (.iload_n 2, 1) := by decide +kernel
theorem d_Re_touch_3 : decode b_Re_touch 3 = .ok (.iload_n 1, 1) := by decide +kernel
theorem d_Re_touch_4 : decode b_Re_touch 4 = .ok (.if_icmp .gt 47, 3) := by decide +kernel
theorem d_Re_touch_7 : decode b_Re_touch 7 = .ok (.aload_n 0, 1) := by decide +kernel
theorem d_Re_touch_8 : decode b_Re_touch 8 = .ok (.getfield 9, 3) := by decide +kernel
theorem d_Re_touch_11 : decode b_Re_touch 11 = .ok (.iload_n 2, 1) := by decide +kernel
theorem d_Re_touch_12 : decode b_Re_touch 12 = .ok (.invokevirtual 91, 3) := by decide +kernel
theorem d_Re_touch_15 : decode b_Re_touch 15 = .ok (.istore_n 3, 1) := by decide +kernel
theorem d_Re_touch_16 : decode b_Re_touch 16 = .ok (.aload_n 0, 1) := by decide +kernel
theorem d_Re_touch_17 : decode b_Re_touch 17 = .ok (.getfield 9, 3) := by decide +kernel
theorem d_Re_touch_20 : decode b_Re_touch 20 = .ok (.iload_n 1, 1) := by decide +kernel
theorem d_Re_touch_21 : decode b_Re_touch 21 = .ok (.iload_n 2, 1) := by decide +kernel
theorem d_Re_touch_22 : decode b_Re_touch 22 = .ok (.invokevirtual 59, 3) := by decide +kernel
theorem d_Re_touch_25 : decode b_Re_touch 25 = .ok (.ifCond .eq 20, 3) := by decide +kernel
theorem d_Re_touch_28 : decode b_Re_touch 28 = .ok (.iload_n 3, 1) := by decide +kernel
theorem d_Re_touch_29 : decode b_Re_touch 29 = .ok (.iconst (-1), 1) := by decide +kernel
theorem d_Re_touch_30 : decode b_Re_touch 30 = .ok (.if_icmp .eq 15, 3) := by decide +kernel
theorem d_Re_touch_33 : decode b_Re_touch 33 = .ok (.aload_n 0, 1) := by decide +kernel
theorem d_Re_touch_34 : decode b_Re_touch 34 = .ok (.dup, 1) := by decide +kernel
theorem d_Re_touch_35 : decode b_Re_touch 35 = .ok (.getfield 19, 3) := by decide +kernel
theorem d_Re_touch_38 : decode b_Re_touch 38 = .ok (.iconst 1, 1) := by decide +kernel
theorem d_Re_touch_39 : decode b_Re_touch 39 = .ok (.iload_n 3, 1) := by decide +kernel
theorem d_Re_touch_40 : decode b_Re_touch 40 = .ok (.ishl, 1) := by decide +kernel
theorem d_Re_touch_41 : decode b_Re_touch 41 = .ok (.ior, 1) := by decide +kernel
theorem d_Re_touch_42 : decode b_Re_touch 42 = .ok (.putfield 19, 3) := by decide +kernel
theorem d_Re_touch_45 : decode b_Re_touch 45 = .ok (.iinc 2 1, 3) := by decide +kernel
theorem d_Re_touch_48 : decode b_Re_touch 48 = .ok (.goto (-46), 3) := by decide +kernel
theorem d_Re_touch_51 : decode b_Re_touch 51 = .ok (.return_, 1) := by decide +kernel
theorem d_Pr_initialiserOf_0 : decode b_Pr_initialiserOf 0 = .ok (.aload_n 0, 1) := by decide +kernel
theorem d_Pr_initialiserOf_1 : decode b_Pr_initialiserOf 1 = .ok (.iload_n 1, 1) := by decide +kernel
theorem d_Pr_initialiserOf_2 : decode b_Pr_initialiserOf 2 = .ok (.invokevirtual 56, 3) := by decide +kernel
theorem d_Pr_initialiserOf_5 : decode b_Pr_initialiserOf 5 = .ok (.ifCond .eq 12, 3) := by decide +kernel
theorem d_Pr_initialiserOf_8 : decode b_Pr_initialiserOf 8 = .ok (.aload_n 0, 1) := by decide +kernel
theorem d_Pr_initialiserOf_9 : decode b_Pr_initialiserOf 9 = .ok (.getfield 18, 3) := by decide +kernel
theorem d_Pr_initialiserOf_12 : decode b_Pr_initialiserOf 12 = .ok (.iload_n 1, 1) := by decide +kernel
theorem d_Pr_initialiserOf_13 : decode b_Pr_initialiserOf 13 = .ok (.iaload, 1) := by decide +kernel
theorem d_Pr_initialiserOf_14 : decode b_Pr_initialiserOf 14 = .ok (.goto 4, 3) := by decide +kernel
theorem d_Pr_initialiserOf_17 : decode b_Pr_initialiserOf 17 = .ok (.iconst (-1), 1) := by decide +kernel
theorem d_Pr_initialiserOf_18 : decode b_Pr_initialiserOf 18 = .ok (.ireturn, 1) := by decide +kernel
theorem d_Pr_isOf_0 : decode b_Pr_isOf 0 = .ok (.aload_n 0, 1) := by decide +kernel
theorem d_Pr_isOf_1 : decode b_Pr_isOf 1 = .ok (.iload_n 1, 1) := by decide +kernel
theorem d_Pr_isOf_2 : decode b_Pr_isOf 2 = .ok (.invokevirtual 56, 3) := by decide +kernel
theorem d_Pr_isOf_5 : decode b_Pr_isOf 5 = .ok (.ifCond .eq 28, 3) := by decide +kernel
theorem d_Pr_isOf_8 : decode b_Pr_isOf 8 = .ok (.aload_n 0, 1) := by decide +kernel
theorem d_Pr_isOf_9 : decode b_Pr_isOf 9 = .ok (.iload_n 2, 1) := by decide +kernel
theorem d_Pr_isOf_10 : decode b_Pr_isOf 10 = .ok (.invokevirtual 56, 3) := by decide +kernel
theorem d_Pr_isOf_13 : decode b_Pr_isOf 13 = .ok (.ifCond .eq 20, 3) := by decide +kernel
theorem d_Pr_isOf_16 : decode b_Pr_isOf 16 = .ok (.aload_n 0, 1) := by decide +kernel
theorem d_Pr_isOf_17 : decode b_Pr_isOf 17 = .ok (.getfield 9, 3) := by decide +kernel
theorem d_Pr_isOf_20 : decode b_Pr_isOf 20 = .ok (.iload_n 1, 1) := by decide +kernel
theorem d_Pr_isOf_21 : decode b_Pr_isOf 21 = .ok (.iaload, 1) := by decide +kernel
theorem d_Pr_isOf_22 : decode b_Pr_isOf 22 = .ok (.iload_n 2, 1) := by decide +kernel
theorem d_Pr_isOf_23 : decode b_Pr_isOf 23 = .ok (.invokestatic 95, 3) := by decide +kernel
theorem d_Pr_isOf_26 : decode b_Pr_isOf 26 = .ok (.ifCond .eq 7, 3) := by decide +kernel
theorem d_Pr_isOf_29 : decode b_Pr_isOf 29 = .ok (.iconst 1, 1) := by decide +kernel
theorem d_Pr_isOf_30 : decode b_Pr_isOf 30 = .ok (.goto 4, 3) := by decide +kernel
theorem d_Pr_isOf_33 : decode b_Pr_isOf 33 = .ok (.iconst 0, 1) := by decide +kernel
theorem d_Pr_isOf_34 : decode b_Pr_isOf 34 = .ok (.ireturn, 1) := by decide +kernel
theorem d_Re_followLive_0 : decode b_Re_followLive 0 = .ok (.iconst 0, 1) := by decide +kernel
theorem d_Re_followLive_1 : decode b_Re_followLive 1 = .ok (.istore_n 1, 1) := by decide +kernel
theorem d_Re_followLive_2 : decode b_Re_followLive 2 = .ok (.iload_n 1, 1) := by decide +kernel
theorem d_Re_followLive_3 : decode b_Re_followLive 3 = .ok (.aload_n 0, 1) := by decide +kernel
theorem d_Re_followLive_4 : decode b_Re_followLive 4 = .ok (.getfield 9, 3) := by decide +kernel
theorem d_Re_followLive_7 : decode b_Re_followLive 7 = .ok (.invokevirtual 62, 3) := by decide +kernel
theorem d_Re_followLive_10 : decode b_Re_followLive 10 = .ok (.if_icmp .ge 55, 3) := by decide +kernel
theorem d_Re_followLive_13 : decode b_Re_followLive 13 = .ok (.iconst 0, 1) := by decide +kernel
theorem d_Re_followLive_14 : decode b_Re_followLive 14 = .ok (.istore_n 2, 1) := by decide +kernel
theorem d_Re_followLive_15 : decode b_Re_followLive 15 = .ok (.iload_n 2, 1) := by decide +kernel
theorem d_Re_followLive_16 : decode b_Re_followLive 16 = .ok (.aload_n 0, 1) := by decide +kernel
theorem d_Re_followLive_17 : decode b_Re_followLive 17 = .ok (.getfield 9, 3) := by decide +kernel
theorem d_Re_followLive_20 : decode b_Re_followLive 20 = .ok (.iload_n 1, 1) := by decide +kernel
theorem d_Re_followLive_21 : decode b_Re_followLive 21 = .ok (.invokevirtual 65, 3) := by decide +kernel
theorem d_Re_followLive_24 : decode b_Re_followLive 24 = .ok (.if_icmp .ge 35, 3) := by decide +kernel
theorem d_Re_followLive_27 : decode b_Re_followLive 27 = .ok (.aload_n 0, 1) := by decide +kernel
theorem d_Re_followLive_28 : decode b_Re_followLive 28 = .ok (.iload_n 1, 1) := by decide +kernel
theorem d_Re_followLive_29 : decode b_Re_followLive 29 = .ok (.invokevirtual 69, 3) := by decide +kernel
theorem d_Re_followLive_32 : decode b_Re_followLive 32 = .ok (.ifCond .eq 21, 3) := by decide +kernel
theorem d_Re_followLive_35 : decode b_Re_followLive 35 = .ok (.aload_n 0, 1) := by decide +kernel
theorem d_Re_followLive_36 : decode b_Re_followLive 36 = .ok (.getfield 15, 3) := by decide +kernel
theorem d_Re_followLive_39 : decode b_Re_followLive 39 = .ok (.iload_n 1, 1) := by decide +kernel
theorem d_Re_followLive_40 : decode b_Re_followLive 40 = .ok (.iload_n 2, 1) := by decide +kernel
theorem d_Re_followLive_41 : decode b_Re_followLive 41 = .ok (.invokevirtual 72, 3) := by decide +kernel
theorem d_Re_followLive_44 : decode b_Re_followLive 44 = .ok (.ifCond .eq 9, 3) := by decide +kernel
theorem d_Re_followLive_47 : decode b_Re_followLive 47 = .ok (.aload_n 0, 1) := by decide +kernel
theorem d_Re_followLive_48 : decode b_Re_followLive 48 = .ok (.iload_n 1, 1) := by decide +kernel
theorem d_Re_followLive_49 : decode b_Re_followLive 49 = .ok (.iload_n 2, 1) := by decide +kernel
theorem d_Re_followLive_50 : decode b_Re_followLive 50 = .ok (.invokevirtual 75, 3) := by decide +kernel
theorem d_Re_followLive_53 : decode b_Re_followLive 53 = .ok (.iinc 2 1, 3) := by decide +kernel
theorem d_Re_followLive_56 : decode b_Re_followLive 56 = .ok (.goto (-41), 3) := by decide +kernel
theorem d_Re_followLive_59 : decode b_Re_followLive 59 = .ok (.iinc 1 1, 3) := by decide +kernel
theorem d_Re_followLive_62 : decode b_Re_followLive 62 = .ok (.goto (-60), 3) := by decide +kernel
theorem d_Re_followLive_65 : decode b_Re_followLive 65 = .ok (.return_, 1) := by decide +kernel
theorem d_Re_isLive_0 : decode b_Re_isLive 0 = .ok (.aload_n 0, 1) := by decide +kernel
theorem d_Re_isLive_1 : decode b_Re_isLive 1 = .ok (.getfield 9, 3) := by decide +kernel
theorem d_Re_isLive_4 : decode b_Re_isLive 4 = .ok (.iload_n 1, 1) := by decide +kernel
theorem d_Re_isLive_5 : decode b_Re_isLive 5 = .ok (.invokevirtual 33, 3) := by decide +kernel
theorem d_Re_isLive_8 : decode b_Re_isLive 8 = .ok (.ifCond .eq 18, 3) := by decide +kernel
theorem d_Re_isLive_11 : decode b_Re_isLive 11 = .ok (.aload_n 0, 1) := by decide +kernel
theorem d_Re_isLive_12 : decode b_Re_isLive 12 = .ok (.getfield 19, 3) := by decide +kernel
theorem d_Re_isLive_15 : decode b_Re_isLive 15 = .ok (.iload_n 1, 1) := by decide +kernel
theorem d_Re_isLive_16 : decode b_Re_isLive 16 = .ok (.invokestatic 39, 3) := by decide +kernel
theorem d_Re_isLive_19 : decode b_Re_isLive 19 = .ok (.ifCond .eq 7, 3) := by decide +kernel
theorem d_Re_isLive_22 : decode b_Re_isLive 22 = .ok (.iconst 1, 1) := by decide +kernel
theorem d_Re_isLive_23 : decode b_Re_isLive 23 = .ok (.goto 4, 3) := by decide +kernel
theorem d_Re_isLive_26 : decode b_Re_isLive 26 = .ok (.iconst 0, 1) := by decide +kernel
theorem d_Re_isLive_27 : decode b_Re_isLive 27 = .ok (.ireturn, 1) := by decide +kernel
theorem d_Ch_isReached_0 : decode b_Ch_isReached 0 = .ok (.aload_n 0, 1) := by decide +kernel
theorem d_Ch_isReached_1 : decode b_Ch_isReached 1 = .ok (.getfield 25, 3) := by decide +kernel
theorem d_Ch_isReached_4 : decode b_Ch_isReached 4 = .ok (.iload_n 1, 1) := by decide +kernel
theorem d_Ch_isReached_5 : decode b_Ch_isReached 5 = .ok (.invokevirtual 61, 3) := by decide +kernel
theorem d_Ch_isReached_8 : decode b_Ch_isReached 8 = .ok (.ifCond .eq 30, 3) := by decide +kernel
theorem d_Ch_isReached_11 : decode b_Ch_isReached 11 = .ok (.iload_n 2, 1) := by decide +kernel
theorem d_Ch_isReached_12 : decode b_Ch_isReached 12 = .ok (.bipush 20, 2) := by decide +kernel
theorem d_Ch_isReached_14 : decode b_Ch_isReached 14 = .ok (.invokestatic 67, 3) := by decide +kernel
theorem d_Ch_isReached_17 : decode b_Ch_isReached 17 = .ok (.ifCond .eq 21, 3) := by decide +kernel
theorem d_Ch_isReached_20 : decode b_Ch_isReached 20 = .ok (.aload_n 0, 1) := by decide +kernel
theorem d_Ch_isReached_21 : decode b_Ch_isReached 21 = .ok (.getfield 15, 3) := by decide +kernel
theorem d_Ch_isReached_24 : decode b_Ch_isReached 24 = .ok (.iload_n 1, 1) := by decide +kernel
theorem d_Ch_isReached_25 : decode b_Ch_isReached 25 = .ok (.iload_n 2, 1) := by decide +kernel
theorem d_Ch_isReached_26 : decode b_Ch_isReached 26 = .ok (.invokestatic 40, 3) := by decide +kernel
theorem d_Ch_isReached_29 : decode b_Ch_isReached 29 = .ok (.iaload, 1) := by decide +kernel
theorem d_Ch_isReached_30 : decode b_Ch_isReached 30 = .ok (.iconst (-1), 1) := by decide +kernel
theorem d_Ch_isReached_31 : decode b_Ch_isReached 31 = .ok (.if_icmp .eq 7, 3) := by decide +kernel
theorem d_Ch_isReached_34 : decode b_Ch_isReached 34 = .ok (.iconst 1, 1) := by decide +kernel
theorem d_Ch_isReached_35 : decode b_Ch_isReached 35 = .ok (.goto 4, 3) := by decide +kernel
theorem d_Ch_isReached_38 : decode b_Ch_isReached 38 = .ok (.iconst 0, 1) := by decide +kernel
theorem d_Ch_isReached_39 : decode b_Ch_isReached 39 = .ok (.ireturn, 1) := by decide +kernel
theorem d_Re_follow_0 : decode b_Re_follow 0 = .ok (.aload_n 0, 1) := by decide +kernel
theorem d_Re_follow_1 : decode b_Re_follow 1 = .ok (.getfield 9, 3) := by decide +kernel
theorem d_Re_follow_4 : decode b_Re_follow 4 = .ok (.iload_n 1, 1) := by decide +kernel
theorem d_Re_follow_5 : decode b_Re_follow 5 = .ok (.iload_n 2, 1) := by decide +kernel
theorem d_Re_follow_6 : decode b_Re_follow 6 = .ok (.invokevirtual 49, 3) := by decide +kernel
theorem d_Re_follow_9 : decode b_Re_follow 9 = .ok (.istore_n 3, 1) := by decide +kernel
theorem d_Re_follow_10 : decode b_Re_follow 10 = .ok (.aload_n 0, 1) := by decide +kernel
theorem d_Re_follow_11 : decode b_Re_follow 11 = .ok (.getfield 9, 3) := by decide +kernel
theorem d_Re_follow_14 : decode b_Re_follow 14 = .ok (.iload_n 1, 1) := by decide +kernel
theorem d_Re_follow_15 : decode b_Re_follow 15 = .ok (.iload_n 2, 1) := by decide +kernel
theorem d_Re_follow_16 : decode b_Re_follow 16 = .ok (.invokevirtual 79, 3) := by decide +kernel
theorem d_Re_follow_19 : decode b_Re_follow 19 = .ok (.tableswitch 95 11 17 #[41, 95, 95, 61, 61, 69, 77], 41) := by decide +kernel
theorem d_Re_follow_60 : decode b_Re_follow 60 = .ok (.aload_n 0, 1) := by decide +kernel
theorem d_Re_follow_61 : decode b_Re_follow 61 = .ok (.dup, 1) := by decide +kernel
theorem d_Re_follow_62 : decode b_Re_follow 62 = .ok (.getfield 23, 3) := by decide +kernel
theorem d_Re_follow_65 : decode b_Re_follow 65 = .ok (.iconst 1, 1) := by decide +kernel
theorem d_Re_follow_66 : decode b_Re_follow 66 = .ok (.iload_n 3, 1) := by decide +kernel
theorem d_Re_follow_67 : decode b_Re_follow 67 = .ok (.ishl, 1) := by decide +kernel
theorem d_Re_follow_68 : decode b_Re_follow 68 = .ok (.ior, 1) := by decide +kernel
theorem d_Re_follow_69 : decode b_Re_follow 69 = .ok (.putfield 23, 3) := by decide +kernel
theorem d_Re_follow_72 : decode b_Re_follow 72 = .ok (.aload_n 0, 1) := by decide +kernel
theorem d_Re_follow_73 : decode b_Re_follow 73 = .ok (.iload_n 3, 1) := by decide +kernel
theorem d_Re_follow_74 : decode b_Re_follow 74 = .ok (.invokevirtual 82, 3) := by decide +kernel
theorem d_Re_follow_77 : decode b_Re_follow 77 = .ok (.goto 37, 3) := by decide +kernel
theorem d_Re_follow_80 : decode b_Re_follow 80 = .ok (.aload_n 0, 1) := by decide +kernel
theorem d_Re_follow_81 : decode b_Re_follow 81 = .ok (.iload_n 3, 1) := by decide +kernel
theorem d_Re_follow_82 : decode b_Re_follow 82 = .ok (.invokevirtual 82, 3) := by decide +kernel
theorem d_Re_follow_85 : decode b_Re_follow 85 = .ok (.goto 29, 3) := by decide +kernel
theorem d_Re_follow_88 : decode b_Re_follow 88 = .ok (.aload_n 0, 1) := by decide +kernel
theorem d_Re_follow_89 : decode b_Re_follow 89 = .ok (.iload_n 3, 1) := by decide +kernel
theorem d_Re_follow_90 : decode b_Re_follow 90 = .ok (.invokevirtual 26, 3) := by decide +kernel
theorem d_Re_follow_93 : decode b_Re_follow 93 = .ok (.goto 21, 3) := by decide +kernel
theorem d_Re_follow_96 : decode b_Re_follow 96 = .ok (.aload_n 0, 1) := by decide +kernel
theorem d_Re_follow_97 : decode b_Re_follow 97 = .ok (.dup, 1) := by decide +kernel
theorem d_Re_follow_98 : decode b_Re_follow 98 = .ok (.getfield 19, 3) := by decide +kernel
theorem d_Re_follow_101 : decode b_Re_follow 101 = .ok (.aload_n 0, 1) := by decide +kernel
theorem d_Re_follow_102 : decode b_Re_follow 102 = .ok (.iload_n 1, 1) := by decide +kernel
theorem d_Re_follow_103 : decode b_Re_follow 103 = .ok (.iload_n 2, 1) := by decide +kernel
theorem d_Re_follow_104 : decode b_Re_follow 104 = .ok (.invokevirtual 85, 3) := by decide +kernel
theorem d_Re_follow_107 : decode b_Re_follow 107 = .ok (.ior, 1) := by decide +kernel
theorem d_Re_follow_108 : decode b_Re_follow 108 = .ok (.putfield 19, 3) := by decide +kernel
theorem d_Re_follow_111 : decode b_Re_follow 111 = .ok (.goto 3, 3) := by decide +kernel
theorem d_Re_follow_114 : decode b_Re_follow 114 = .ok (.return_, 1) := by decide +kernel
theorem d_Re_targetSet_0 : decode b_Re_targetSet 0 = .ok (.aload_n 0, 1) := by decide +kernel
theorem d_Re_targetSet_1 : decode b_Re_targetSet 1 = .ok (.getfield 15, 3) := by decide +kernel
theorem d_Re_targetSet_4 : decode b_Re_targetSet 4 = .ok (.iload_n 1, 1) := by decide +kernel
theorem d_Re_targetSet_5 : decode b_Re_targetSet 5 = .ok (.iload_n 2, 1) := by decide +kernel
theorem d_Re_targetSet_6 : decode b_Re_targetSet 6 = .ok (.invokevirtual 43, 3) := by decide +kernel
theorem d_Re_targetSet_9 : decode b_Re_targetSet 9 = .ok (.istore_n 3, 1) := by decide +kernel
theorem d_Re_targetSet_10 : decode b_Re_targetSet 10 = .ok (.aload_n 0, 1) := by decide +kernel
theorem d_Re_targetSet_11 : decode b_Re_targetSet 11 = .ok (.getfield 9, 3) := by decide +kernel
theorem d_Re_targetSet_14 : decode b_Re_targetSet 14 = .ok (.iload_n 1, 1) := by decide +kernel
theorem d_Re_targetSet_15 : decode b_Re_targetSet 15 = .ok (.iload_n 2, 1) := by decide +kernel
theorem d_Re_targetSet_16 : decode b_Re_targetSet 16 = .ok (.invokevirtual 49, 3) := by decide +kernel
theorem d_Re_targetSet_19 : decode b_Re_targetSet 19 = .ok (.istore 4, 2) := by decide +kernel
theorem d_Re_targetSet_21 : decode b_Re_targetSet 21 = .ok (.iconst 0, 1) := by decide +kernel
theorem d_Re_targetSet_22 : decode b_Re_targetSet 22 = .ok (.istore 5, 2) := by decide +kernel
theorem d_Re_targetSet_24 : decode b_Re_targetSet 24 = .ok (.iconst 0, 1) := by decide +kernel
theorem d_Re_targetSet_25 : decode b_Re_targetSet 25 = .ok (.istore 6, 2) := by decide +kernel
theorem d_Re_targetSet_27 : decode b_Re_targetSet 27 = .ok (.iload 6, 2) := by decide +kernel
theorem d_Re_targetSet_29 : decode b_Re_targetSet 29 = .ok (.aload_n 0, 1) := by decide +kernel
theorem d_Re_targetSet_30 : decode b_Re_targetSet 30 = .ok (.getfield 9, 3) := by decide +kernel
theorem d_Re_targetSet_33 : decode b_Re_targetSet 33 = .ok (.invokevirtual 52, 3) := by decide +kernel
theorem d_Re_targetSet_36 : decode b_Re_targetSet 36 = .ok (.if_icmp .ge 62, 3) := by decide +kernel
theorem d_Re_targetSet_39 : decode b_Re_targetSet 39 = .ok (.aload_n 0, 1) := by decide +kernel
theorem d_Re_targetSet_40 : decode b_Re_targetSet 40 = .ok (.getfield 9, 3) := by decide +kernel
theorem d_Re_targetSet_43 : decode b_Re_targetSet 43 = .ok (.iload 6, 2) := by decide +kernel
theorem d_Re_targetSet_45 : decode b_Re_targetSet 45 = .ok (.iload 4, 2) := by decide +kernel
theorem d_Re_targetSet_47 : decode b_Re_targetSet 47 = .ok (.invokevirtual 56, 3) := by decide +kernel
theorem d_Re_targetSet_50 : decode b_Re_targetSet 50 = .ok (.istore 7, 2) := by decide +kernel
theorem d_Re_targetSet_52 : decode b_Re_targetSet 52 = .ok (.aload_n 0, 1) := by decide +kernel
theorem d_Re_targetSet_53 : decode b_Re_targetSet 53 = .ok (.getfield 23, 3) := by decide +kernel
theorem d_Re_targetSet_56 : decode b_Re_targetSet 56 = .ok (.iload 6, 2) := by decide +kernel
theorem d_Re_targetSet_58 : decode b_Re_targetSet 58 = .ok (.invokestatic 39, 3) := by decide +kernel
theorem d_Re_targetSet_61 : decode b_Re_targetSet 61 = .ok (.ifCond .eq 31, 3) := by decide +kernel
theorem d_Re_targetSet_64 : decode b_Re_targetSet 64 = .ok (.aload_n 0, 1) := by decide +kernel
theorem d_Re_targetSet_65 : decode b_Re_targetSet 65 = .ok (.getfield 9, 3) := by decide +kernel
theorem d_Re_targetSet_68 : decode b_Re_targetSet 68 = .ok (.iload 6, 2) := by decide +kernel
theorem d_Re_targetSet_70 : decode b_Re_targetSet 70 = .ok (.iload_n 3, 1) := by decide +kernel
theorem d_Re_targetSet_71 : decode b_Re_targetSet 71 = .ok (.invokevirtual 59, 3) := by decide +kernel
theorem d_Re_targetSet_74 : decode b_Re_targetSet 74 = .ok (.ifCond .eq 18, 3) := by decide +kernel
theorem d_Re_targetSet_77 : decode b_Re_targetSet 77 = .ok (.iload 7, 2) := by decide +kernel
theorem d_Re_targetSet_79 : decode b_Re_targetSet 79 = .ok (.iconst (-1), 1) := by decide +kernel
theorem d_Re_targetSet_80 : decode b_Re_targetSet 80 = .ok (.if_icmp .eq 12, 3) := by decide +kernel
theorem d_Re_targetSet_83 : decode b_Re_targetSet 83 = .ok (.iload 5, 2) := by decide +kernel
theorem d_Re_targetSet_85 : decode b_Re_targetSet 85 = .ok (.iconst 1, 1) := by decide +kernel
theorem d_Re_targetSet_86 : decode b_Re_targetSet 86 = .ok (.iload 7, 2) := by decide +kernel
theorem d_Re_targetSet_88 : decode b_Re_targetSet 88 = .ok (.ishl, 1) := by decide +kernel
theorem d_Re_targetSet_89 : decode b_Re_targetSet 89 = .ok (.ior, 1) := by decide +kernel
theorem d_Re_targetSet_90 : decode b_Re_targetSet 90 = .ok (.istore 5, 2) := by decide +kernel
theorem d_Re_targetSet_92 : decode b_Re_targetSet 92 = .ok (.iinc 6 1, 3) := by decide +kernel
theorem d_Re_targetSet_95 : decode b_Re_targetSet 95 = .ok (.goto (-68), 3) := by decide +kernel
theorem d_Re_targetSet_98 : decode b_Re_targetSet 98 = .ok (.iload 5, 2) := by decide +kernel
theorem d_Re_targetSet_100 : decode b_Re_targetSet 100 = .ok (.ireturn, 1) := by decide +kernel
theorem d_Ch_receiverAt_0 : decode b_Ch_receiverAt 0 = .ok (.aload_n 0, 1) := by decide +kernel
theorem d_Ch_receiverAt_1 : decode b_Ch_receiverAt 1 = .ok (.iload_n 1, 1) := by decide +kernel
theorem d_Ch_receiverAt_2 : decode b_Ch_receiverAt 2 = .ok (.iload_n 2, 1) := by decide +kernel
theorem d_Ch_receiverAt_3 : decode b_Ch_receiverAt 3 = .ok (.invokevirtual 71, 3) := by decide +kernel
theorem d_Ch_receiverAt_6 : decode b_Ch_receiverAt 6 = .ok (.ifCond .ne 5, 3) := by decide +kernel
theorem d_Ch_receiverAt_9 : decode b_Ch_receiverAt 9 = .ok (.iconst (-1), 1) := by decide +kernel
theorem d_Ch_receiverAt_10 : decode b_Ch_receiverAt 10 = .ok (.ireturn, 1) := by decide +kernel
theorem d_Ch_receiverAt_11 : decode b_Ch_receiverAt 11 = .ok (.iload_n 1, 1) := by decide +kernel
theorem d_Ch_receiverAt_12 : decode b_Ch_receiverAt 12 = .ok (.iload_n 2, 1) := by decide +kernel
theorem d_Ch_receiverAt_13 : decode b_Ch_receiverAt 13 = .ok (.invokestatic 40, 3) := by decide +kernel
theorem d_Ch_receiverAt_16 : decode b_Ch_receiverAt 16 = .ok (.istore_n 3, 1) := by decide +kernel
theorem d_Ch_receiverAt_17 : decode b_Ch_receiverAt 17 = .ok (.aload_n 0, 1) := by decide +kernel
theorem d_Ch_receiverAt_18 : decode b_Ch_receiverAt 18 = .ok (.getfield 15, 3) := by decide +kernel
theorem d_Ch_receiverAt_21 : decode b_Ch_receiverAt 21 = .ok (.iload_n 3, 1) := by decide +kernel
theorem d_Ch_receiverAt_22 : decode b_Ch_receiverAt 22 = .ok (.iaload, 1) := by decide +kernel
theorem d_Ch_receiverAt_23 : decode b_Ch_receiverAt 23 = .ok (.iconst 2, 1) := by decide +kernel
theorem d_Ch_receiverAt_24 : decode b_Ch_receiverAt 24 = .ok (.if_icmp .lt 26, 3) := by decide +kernel
theorem d_Ch_receiverAt_27 : decode b_Ch_receiverAt 27 = .ok (.aload_n 0, 1) := by decide +kernel
theorem d_Ch_receiverAt_28 : decode b_Ch_receiverAt 28 = .ok (.getfield 9, 3) := by decide +kernel
theorem d_Ch_receiverAt_31 : decode b_Ch_receiverAt 31 = .ok (.iload_n 3, 1) := by decide +kernel
theorem d_Ch_receiverAt_32 : decode b_Ch_receiverAt 32 = .ok (.bipush 10, 2) := by decide +kernel
theorem d_Ch_receiverAt_34 : decode b_Ch_receiverAt 34 = .ok (.imul, 1) := by decide +kernel
theorem d_Ch_receiverAt_35 : decode b_Ch_receiverAt 35 = .ok (.iconst 4, 1) := by decide +kernel
theorem d_Ch_receiverAt_36 : decode b_Ch_receiverAt 36 = .ok (.iadd, 1) := by decide +kernel
theorem d_Ch_receiverAt_37 : decode b_Ch_receiverAt 37 = .ok (.aload_n 0, 1) := by decide +kernel
theorem d_Ch_receiverAt_38 : decode b_Ch_receiverAt 38 = .ok (.getfield 15, 3) := by decide +kernel
theorem d_Ch_receiverAt_41 : decode b_Ch_receiverAt 41 = .ok (.iload_n 3, 1) := by decide +kernel
theorem d_Ch_receiverAt_42 : decode b_Ch_receiverAt 42 = .ok (.iaload, 1) := by decide +kernel
theorem d_Ch_receiverAt_43 : decode b_Ch_receiverAt 43 = .ok (.iadd, 1) := by decide +kernel
theorem d_Ch_receiverAt_44 : decode b_Ch_receiverAt 44 = .ok (.iconst 2, 1) := by decide +kernel
theorem d_Ch_receiverAt_45 : decode b_Ch_receiverAt 45 = .ok (.isub, 1) := by decide +kernel
theorem d_Ch_receiverAt_46 : decode b_Ch_receiverAt 46 = .ok (.iaload, 1) := by decide +kernel
theorem d_Ch_receiverAt_47 : decode b_Ch_receiverAt 47 = .ok (.goto 4, 3) := by decide +kernel
theorem d_Ch_receiverAt_50 : decode b_Ch_receiverAt 50 = .ok (.iconst (-1), 1) := by decide +kernel
theorem d_Ch_receiverAt_51 : decode b_Ch_receiverAt 51 = .ok (.ireturn, 1) := by decide +kernel
theorem d_Pr_typeCount_0 : decode b_Pr_typeCount 0 = .ok (.aload_n 0, 1) := by decide +kernel
theorem d_Pr_typeCount_1 : decode b_Pr_typeCount 1 = .ok (.getfield 60, 3) := by decide +kernel
theorem d_Pr_typeCount_4 : decode b_Pr_typeCount 4 = .ok (.ireturn, 1) := by decide +kernel
theorem d_Cw_typeAt_0 : decode b_Cw_typeAt 0 = .ok (.aload_n 0, 1) := by decide +kernel
theorem d_Cw_typeAt_1 : decode b_Cw_typeAt 1 = .ok (.getfield 41, 3) := by decide +kernel
theorem d_Cw_typeAt_4 : decode b_Cw_typeAt 4 = .ok (.ifCond .eq 16, 3) := by decide +kernel
theorem d_Cw_typeAt_7 : decode b_Cw_typeAt 7 = .ok (.aload_n 0, 1) := by decide +kernel
theorem d_Cw_typeAt_8 : decode b_Cw_typeAt 8 = .ok (.getfield 21, 3) := by decide +kernel
theorem d_Cw_typeAt_11 : decode b_Cw_typeAt 11 = .ok (.iload_n 1, 1) := by decide +kernel
theorem d_Cw_typeAt_12 : decode b_Cw_typeAt 12 = .ok (.iload_n 2, 1) := by decide +kernel
theorem d_Cw_typeAt_13 : decode b_Cw_typeAt 13 = .ok (.iload_n 3, 1) := by decide +kernel
theorem d_Cw_typeAt_14 : decode b_Cw_typeAt 14 = .ok (.invokevirtual 90, 3) := by decide +kernel
theorem d_Cw_typeAt_17 : decode b_Cw_typeAt 17 = .ok (.goto 4, 3) := by decide +kernel
theorem d_Cw_typeAt_20 : decode b_Cw_typeAt 20 = .ok (.iconst (-1), 1) := by decide +kernel
theorem d_Cw_typeAt_21 : decode b_Cw_typeAt 21 = .ok (.ireturn, 1) := by decide +kernel
theorem d_Ch_typeOf_0 : decode b_Ch_typeOf 0 = .ok (.aload_n 0, 1) := by decide +kernel
theorem d_Ch_typeOf_1 : decode b_Ch_typeOf 1 = .ok (.iload_n 1, 1) := by decide +kernel
theorem d_Ch_typeOf_2 : decode b_Ch_typeOf 2 = .ok (.iload_n 2, 1) := by decide +kernel
theorem d_Ch_typeOf_3 : decode b_Ch_typeOf 3 = .ok (.invokevirtual 71, 3) := by decide +kernel
theorem d_Ch_typeOf_6 : decode b_Ch_typeOf 6 = .ok (.ifCond .ne 5, 3) := by decide +kernel
theorem d_Ch_typeOf_9 : decode b_Ch_typeOf 9 = .ok (.iconst (-1), 1) := by decide +kernel
theorem d_Ch_typeOf_10 : decode b_Ch_typeOf 10 = .ok (.ireturn, 1) := by decide +kernel
theorem d_Ch_typeOf_11 : decode b_Ch_typeOf 11 = .ok (.iload_n 1, 1) := by decide +kernel
theorem d_Ch_typeOf_12 : decode b_Ch_typeOf 12 = .ok (.iload_n 2, 1) := by decide +kernel
theorem d_Ch_typeOf_13 : decode b_Ch_typeOf 13 = .ok (.invokestatic 40, 3) := by decide +kernel
theorem d_Ch_typeOf_16 : decode b_Ch_typeOf 16 = .ok (.istore 4, 2) := by decide +kernel
theorem d_Ch_typeOf_18 : decode b_Ch_typeOf 18 = .ok (.iload_n 3, 1) := by decide +kernel
theorem d_Ch_typeOf_19 : decode b_Ch_typeOf 19 = .ok (.iconst 4, 1) := by decide +kernel
theorem d_Ch_typeOf_20 : decode b_Ch_typeOf 20 = .ok (.aload_n 0, 1) := by decide +kernel
theorem d_Ch_typeOf_21 : decode b_Ch_typeOf 21 = .ok (.getfield 15, 3) := by decide +kernel
theorem d_Ch_typeOf_24 : decode b_Ch_typeOf 24 = .ok (.iload 4, 2) := by decide +kernel
theorem d_Ch_typeOf_26 : decode b_Ch_typeOf 26 = .ok (.iaload, 1) := by decide +kernel
theorem d_Ch_typeOf_27 : decode b_Ch_typeOf 27 = .ok (.iadd, 1) := by decide +kernel
theorem d_Ch_typeOf_28 : decode b_Ch_typeOf 28 = .ok (.invokestatic 67, 3) := by decide +kernel
theorem d_Ch_typeOf_31 : decode b_Ch_typeOf 31 = .ok (.ifCond .eq 18, 3) := by decide +kernel
theorem d_Ch_typeOf_34 : decode b_Ch_typeOf 34 = .ok (.aload_n 0, 1) := by decide +kernel
theorem d_Ch_typeOf_35 : decode b_Ch_typeOf 35 = .ok (.getfield 9, 3) := by decide +kernel
theorem d_Ch_typeOf_38 : decode b_Ch_typeOf 38 = .ok (.iload 4, 2) := by decide +kernel
theorem d_Ch_typeOf_40 : decode b_Ch_typeOf 40 = .ok (.bipush 10, 2) := by decide +kernel
theorem d_Ch_typeOf_42 : decode b_Ch_typeOf 42 = .ok (.imul, 1) := by decide +kernel
theorem d_Ch_typeOf_43 : decode b_Ch_typeOf 43 = .ok (.iload_n 3, 1) := by decide +kernel
theorem d_Ch_typeOf_44 : decode b_Ch_typeOf 44 = .ok (.iadd, 1) := by decide +kernel
theorem d_Ch_typeOf_45 : decode b_Ch_typeOf 45 = .ok (.iaload, 1) := by decide +kernel
theorem d_Ch_typeOf_46 : decode b_Ch_typeOf 46 = .ok (.goto 4, 3) := by decide +kernel
theorem d_Ch_typeOf_49 : decode b_Ch_typeOf 49 = .ok (.iconst (-1), 1) := by decide +kernel
theorem d_Ch_typeOf_50 : decode b_Ch_typeOf 50 = .ok (.ireturn, 1) := by decide +kernel
theorem d_Cw_answer_0 : decode b_Cw_answer 0 = .ok (.aload_n 0, 1) := by decide +kernel
theorem d_Cw_answer_1 : decode b_Cw_answer 1 = .ok (.getfield 17, 3) := by decide +kernel
theorem d_Cw_answer_4 : decode b_Cw_answer 4 = .ok (.iload_n 1, 1) := by decide +kernel
theorem d_Cw_answer_5 : decode b_Cw_answer 5 = .ok (.iload_n 2, 1) := by decide +kernel
theorem d_Cw_answer_6 : decode b_Cw_answer 6 = .ok (.invokevirtual 93, 3) := by decide +kernel
theorem d_Cw_answer_9 : decode b_Cw_answer 9 = .ok (.ireturn, 1) := by decide +kernel
theorem d_Cw_slot_0 : decode b_Cw_slot 0 = .ok (.aload_n 0, 1) := by decide +kernel
theorem d_Cw_slot_1 : decode b_Cw_slot 1 = .ok (.getfield 17, 3) := by decide +kernel
theorem d_Cw_slot_4 : decode b_Cw_slot 4 = .ok (.iload_n 1, 1) := by decide +kernel
theorem d_Cw_slot_5 : decode b_Cw_slot 5 = .ok (.iload_n 2, 1) := by decide +kernel
theorem d_Cw_slot_6 : decode b_Cw_slot 6 = .ok (.invokevirtual 96, 3) := by decide +kernel
theorem d_Cw_slot_9 : decode b_Cw_slot 9 = .ok (.ireturn, 1) := by decide +kernel
theorem d_Pr_slotOf_0 : decode b_Pr_slotOf 0 = .ok (.aload_n 0, 1) := by decide +kernel
theorem d_Pr_slotOf_1 : decode b_Pr_slotOf 1 = .ok (.iload_n 1, 1) := by decide +kernel
theorem d_Pr_slotOf_2 : decode b_Pr_slotOf 2 = .ok (.invokevirtual 56, 3) := by decide +kernel
theorem d_Pr_slotOf_5 : decode b_Pr_slotOf 5 = .ok (.ifCond .ne 5, 3) := by decide +kernel
theorem d_Pr_slotOf_8 : decode b_Pr_slotOf 8 = .ok (.iconst (-1), 1) := by decide +kernel
theorem d_Pr_slotOf_9 : decode b_Pr_slotOf 9 = .ok (.ireturn, 1) := by decide +kernel
theorem d_Pr_slotOf_10 : decode b_Pr_slotOf 10 = .ok (.iconst 0, 1) := by decide +kernel
theorem d_Pr_slotOf_11 : decode b_Pr_slotOf 11 = .ok (.istore_n 3, 1) := by decide +kernel
theorem d_Pr_slotOf_12 : decode b_Pr_slotOf 12 = .ok (.iconst 0, 1) := by decide +kernel
theorem d_Pr_slotOf_13 : decode b_Pr_slotOf 13 = .ok (.istore 4, 2) := by decide +kernel
theorem d_Pr_slotOf_15 : decode b_Pr_slotOf 15 = .ok (.iload 4, 2) := by decide +kernel
theorem d_Pr_slotOf_17 : decode b_Pr_slotOf 17 = .ok (.iload_n 1, 1) := by decide +kernel
theorem d_Pr_slotOf_18 : decode b_Pr_slotOf 18 = .ok (.if_icmp .gt 109, 3) := by decide +kernel
theorem d_Pr_slotOf_21 : decode b_Pr_slotOf 21 = .ok (.iconst 0, 1) := by decide +kernel
theorem d_Pr_slotOf_22 : decode b_Pr_slotOf 22 = .ok (.istore 5, 2) := by decide +kernel
theorem d_Pr_slotOf_24 : decode b_Pr_slotOf 24 = .ok (.iload 5, 2) := by decide +kernel
theorem d_Pr_slotOf_26 : decode b_Pr_slotOf 26 = .ok (.aload_n 0, 1) := by decide +kernel
theorem d_Pr_slotOf_27 : decode b_Pr_slotOf 27 = .ok (.getfield 77, 3) := by decide +kernel
theorem d_Pr_slotOf_30 : decode b_Pr_slotOf 30 = .ok (.if_icmp .ge 91, 3) := by decide +kernel
theorem d_Pr_slotOf_33 : decode b_Pr_slotOf 33 = .ok (.aload_n 0, 1) := by decide +kernel
theorem d_Pr_slotOf_34 : decode b_Pr_slotOf 34 = .ok (.getfield 29, 3) := by decide +kernel
theorem d_Pr_slotOf_37 : decode b_Pr_slotOf 37 = .ok (.iload 5, 2) := by decide +kernel
theorem d_Pr_slotOf_39 : decode b_Pr_slotOf 39 = .ok (.iaload, 1) := by decide +kernel
theorem d_Pr_slotOf_40 : decode b_Pr_slotOf 40 = .ok (.iconst (-1), 1) := by decide +kernel
theorem d_Pr_slotOf_41 : decode b_Pr_slotOf 41 = .ok (.if_icmp .eq 33, 3) := by decide +kernel
theorem d_Pr_slotOf_44 : decode b_Pr_slotOf 44 = .ok (.aload_n 0, 1) := by decide +kernel
theorem d_Pr_slotOf_45 : decode b_Pr_slotOf 45 = .ok (.getfield 26, 3) := by decide +kernel
theorem d_Pr_slotOf_48 : decode b_Pr_slotOf 48 = .ok (.iload 5, 2) := by decide +kernel
theorem d_Pr_slotOf_50 : decode b_Pr_slotOf 50 = .ok (.iaload, 1) := by decide +kernel
theorem d_Pr_slotOf_51 : decode b_Pr_slotOf 51 = .ok (.iload 4, 2) := by decide +kernel
theorem d_Pr_slotOf_53 : decode b_Pr_slotOf 53 = .ok (.if_icmp .ne 21, 3) := by decide +kernel
theorem d_Pr_slotOf_56 : decode b_Pr_slotOf 56 = .ok (.aload_n 0, 1) := by decide +kernel
theorem d_Pr_slotOf_57 : decode b_Pr_slotOf 57 = .ok (.getfield 9, 3) := by decide +kernel
theorem d_Pr_slotOf_60 : decode b_Pr_slotOf 60 = .ok (.iload_n 1, 1) := by decide +kernel
theorem d_Pr_slotOf_61 : decode b_Pr_slotOf 61 = .ok (.iaload, 1) := by decide +kernel
theorem d_Pr_slotOf_62 : decode b_Pr_slotOf 62 = .ok (.iload 4, 2) := by decide +kernel
theorem d_Pr_slotOf_64 : decode b_Pr_slotOf 64 = .ok (.invokestatic 95, 3) := by decide +kernel
theorem d_Pr_slotOf_67 : decode b_Pr_slotOf 67 = .ok (.ifCond .eq 7, 3) := by decide +kernel
theorem d_Pr_slotOf_70 : decode b_Pr_slotOf 70 = .ok (.iconst 1, 1) := by decide +kernel
theorem d_Pr_slotOf_71 : decode b_Pr_slotOf 71 = .ok (.goto 4, 3) := by decide +kernel
theorem d_Pr_slotOf_74 : decode b_Pr_slotOf 74 = .ok (.iconst 0, 1) := by decide +kernel
theorem d_Pr_slotOf_75 : decode b_Pr_slotOf 75 = .ok (.istore 6, 2) := by decide +kernel
theorem d_Pr_slotOf_77 : decode b_Pr_slotOf 77 = .ok (.iload 6, 2) := by decide +kernel
theorem d_Pr_slotOf_79 : decode b_Pr_slotOf 79 = .ok (.ifCond .eq 19, 3) := by decide +kernel
theorem d_Pr_slotOf_82 : decode b_Pr_slotOf 82 = .ok (.aload_n 0, 1) := by decide +kernel
theorem d_Pr_slotOf_83 : decode b_Pr_slotOf 83 = .ok (.getfield 29, 3) := by decide +kernel
theorem d_Pr_slotOf_86 : decode b_Pr_slotOf 86 = .ok (.iload 5, 2) := by decide +kernel
theorem d_Pr_slotOf_88 : decode b_Pr_slotOf 88 = .ok (.iaload, 1) := by decide +kernel
theorem d_Pr_slotOf_89 : decode b_Pr_slotOf 89 = .ok (.iload_n 2, 1) := by decide +kernel
theorem d_Pr_slotOf_90 : decode b_Pr_slotOf 90 = .ok (.if_icmp .ne 8, 3) := by decide +kernel
theorem d_Pr_slotOf_93 : decode b_Pr_slotOf 93 = .ok (.iload_n 3, 1) := by decide +kernel
theorem d_Pr_slotOf_94 : decode b_Pr_slotOf 94 = .ok (.invokestatic 101, 3) := by decide +kernel
theorem d_Pr_slotOf_97 : decode b_Pr_slotOf 97 = .ok (.ireturn, 1) := by decide +kernel
theorem d_Pr_slotOf_98 : decode b_Pr_slotOf 98 = .ok (.iload 6, 2) := by decide +kernel
theorem d_Pr_slotOf_100 : decode b_Pr_slotOf 100 = .ok (.ifCond .eq 15, 3) := by decide +kernel
theorem d_Pr_slotOf_103 : decode b_Pr_slotOf 103 = .ok (.iload_n 3, 1) := by decide +kernel
theorem d_Pr_slotOf_104 : decode b_Pr_slotOf 104 = .ok (.iconst 1, 1) := by decide +kernel
theorem d_Pr_slotOf_105 : decode b_Pr_slotOf 105 = .ok (.aload_n 0, 1) := by decide +kernel
theorem d_Pr_slotOf_106 : decode b_Pr_slotOf 106 = .ok (.getfield 29, 3) := by decide +kernel
theorem d_Pr_slotOf_109 : decode b_Pr_slotOf 109 = .ok (.iload 5, 2) := by decide +kernel
theorem d_Pr_slotOf_111 : decode b_Pr_slotOf 111 = .ok (.iaload, 1) := by decide +kernel
theorem d_Pr_slotOf_112 : decode b_Pr_slotOf 112 = .ok (.ishl, 1) := by decide +kernel
theorem d_Pr_slotOf_113 : decode b_Pr_slotOf 113 = .ok (.ior, 1) := by decide +kernel
theorem d_Pr_slotOf_114 : decode b_Pr_slotOf 114 = .ok (.istore_n 3, 1) := by decide +kernel
theorem d_Pr_slotOf_115 : decode b_Pr_slotOf 115 = .ok (.iinc 5 1, 3) := by decide +kernel
theorem d_Pr_slotOf_118 : decode b_Pr_slotOf 118 = .ok (.goto (-94), 3) := by decide +kernel
theorem d_Pr_slotOf_121 : decode b_Pr_slotOf 121 = .ok (.iinc 4 1, 3) := by decide +kernel
theorem d_Pr_slotOf_124 : decode b_Pr_slotOf 124 = .ok (.goto (-109), 3) := by decide +kernel
theorem d_Pr_slotOf_127 : decode b_Pr_slotOf 127 = .ok (.iconst (-1), 1) := by decide +kernel
theorem d_Pr_slotOf_128 : decode b_Pr_slotOf 128 = .ok (.ireturn, 1) := by decide +kernel
theorem d_In_bitCount_0 : decode b_In_bitCount 0 = .ok (.iload_n 0, 1) := by decide +kernel
theorem d_In_bitCount_1 : decode b_In_bitCount 1 = .ok (.iload_n 0, 1) := by decide +kernel
theorem d_In_bitCount_2 : decode b_In_bitCount 2 = .ok (.iconst 1, 1) := by decide +kernel
theorem d_In_bitCount_3 : decode b_In_bitCount 3 = .ok (.iushr, 1) := by decide +kernel
theorem d_In_bitCount_4 : decode b_In_bitCount 4 = .ok (.ldc_w 265, 3) := by decide +kernel
theorem d_In_bitCount_7 : decode b_In_bitCount 7 = .ok (.iand, 1) := by decide +kernel
theorem d_In_bitCount_8 : decode b_In_bitCount 8 = .ok (.isub, 1) := by decide +kernel
theorem d_In_bitCount_9 : decode b_In_bitCount 9 = .ok (.istore_n 0, 1) := by decide +kernel
theorem d_In_bitCount_10 : decode b_In_bitCount 10 = .ok (.iload_n 0, 1) := by decide +kernel
theorem d_In_bitCount_11 : decode b_In_bitCount 11 = .ok (.ldc_w 266, 3) := by decide +kernel
theorem d_In_bitCount_14 : decode b_In_bitCount 14 = .ok (.iand, 1) := by decide +kernel
theorem d_In_bitCount_15 : decode b_In_bitCount 15 = .ok (.iload_n 0, 1) := by decide +kernel
theorem d_In_bitCount_16 : decode b_In_bitCount 16 = .ok (.iconst 2, 1) := by decide +kernel
theorem d_In_bitCount_17 : decode b_In_bitCount 17 = .ok (.iushr, 1) := by decide +kernel
theorem d_In_bitCount_18 : decode b_In_bitCount 18 = .ok (.ldc_w 266, 3) := by decide +kernel
theorem d_In_bitCount_21 : decode b_In_bitCount 21 = .ok (.iand, 1) := by decide +kernel
theorem d_In_bitCount_22 : decode b_In_bitCount 22 = .ok (.iadd, 1) := by decide +kernel
theorem d_In_bitCount_23 : decode b_In_bitCount 23 = .ok (.istore_n 0, 1) := by decide +kernel
theorem d_In_bitCount_24 : decode b_In_bitCount 24 = .ok (.iload_n 0, 1) := by decide +kernel
theorem d_In_bitCount_25 : decode b_In_bitCount 25 = .ok (.iload_n 0, 1) := by decide +kernel
theorem d_In_bitCount_26 : decode b_In_bitCount 26 = .ok (.iconst 4, 1) := by decide +kernel
theorem d_In_bitCount_27 : decode b_In_bitCount 27 = .ok (.iushr, 1) := by decide +kernel
theorem d_In_bitCount_28 : decode b_In_bitCount 28 = .ok (.iadd, 1) := by decide +kernel
theorem d_In_bitCount_29 : decode b_In_bitCount 29 = .ok (.ldc_w 267, 3) := by decide +kernel
theorem d_In_bitCount_32 : decode b_In_bitCount 32 = .ok (.iand, 1) := by decide +kernel
theorem d_In_bitCount_33 : decode b_In_bitCount 33 = .ok (.istore_n 0, 1) := by decide +kernel
theorem d_In_bitCount_34 : decode b_In_bitCount 34 = .ok (.iload_n 0, 1) := by decide +kernel
theorem d_In_bitCount_35 : decode b_In_bitCount 35 = .ok (.iload_n 0, 1) := by decide +kernel
theorem d_In_bitCount_36 : decode b_In_bitCount 36 = .ok (.bipush 8, 2) := by decide +kernel
theorem d_In_bitCount_38 : decode b_In_bitCount 38 = .ok (.iushr, 1) := by decide +kernel
theorem d_In_bitCount_39 : decode b_In_bitCount 39 = .ok (.iadd, 1) := by decide +kernel
theorem d_In_bitCount_40 : decode b_In_bitCount 40 = .ok (.istore_n 0, 1) := by decide +kernel
theorem d_In_bitCount_41 : decode b_In_bitCount 41 = .ok (.iload_n 0, 1) := by decide +kernel
theorem d_In_bitCount_42 : decode b_In_bitCount 42 = .ok (.iload_n 0, 1) := by decide +kernel
theorem d_In_bitCount_43 : decode b_In_bitCount 43 = .ok (.bipush 16, 2) := by decide +kernel
theorem d_In_bitCount_45 : decode b_In_bitCount 45 = .ok (.iushr, 1) := by decide +kernel
theorem d_In_bitCount_46 : decode b_In_bitCount 46 = .ok (.iadd, 1) := by decide +kernel
theorem d_In_bitCount_47 : decode b_In_bitCount 47 = .ok (.istore_n 0, 1) := by decide +kernel
theorem d_In_bitCount_48 : decode b_In_bitCount 48 = .ok (.iload_n 0, 1) := by decide +kernel
theorem d_In_bitCount_49 : decode b_In_bitCount 49 = .ok (.bipush 63, 2) := by decide +kernel
theorem d_In_bitCount_51 : decode b_In_bitCount 51 = .ok (.iand, 1) := by decide +kernel
theorem d_In_bitCount_52 : decode b_In_bitCount 52 = .ok (.ireturn, 1) := by decide +kernel
theorem d_Cw_live_0 : decode b_Cw_live 0 = .ok (.aload_n 0, 1) := by decide +kernel
theorem d_Cw_live_1 : decode b_Cw_live 1 = .ok (.getfield 41, 3) := by decide +kernel
theorem d_Cw_live_4 : decode b_Cw_live 4 = .ok (.ifCond .eq 29, 3) := by decide +kernel
theorem d_Cw_live_7 : decode b_Cw_live 7 = .ok (.aload_n 0, 1) := by decide +kernel
theorem d_Cw_live_8 : decode b_Cw_live 8 = .ok (.getfield 17, 3) := by decide +kernel
theorem d_Cw_live_11 : decode b_Cw_live 11 = .ok (.iload_n 1, 1) := by decide +kernel
theorem d_Cw_live_12 : decode b_Cw_live 12 = .ok (.invokevirtual 99, 3) := by decide +kernel
theorem d_Cw_live_15 : decode b_Cw_live 15 = .ok (.ifCond .eq 18, 3) := by decide +kernel
theorem d_Cw_live_18 : decode b_Cw_live 18 = .ok (.aload_n 0, 1) := by decide +kernel
theorem d_Cw_live_19 : decode b_Cw_live 19 = .ok (.getfield 30, 3) := by decide +kernel
theorem d_Cw_live_22 : decode b_Cw_live 22 = .ok (.iload_n 1, 1) := by decide +kernel
theorem d_Cw_live_23 : decode b_Cw_live 23 = .ok (.invokevirtual 102, 3) := by decide +kernel
theorem d_Cw_live_26 : decode b_Cw_live 26 = .ok (.ifCond .eq 7, 3) := by decide +kernel
theorem d_Cw_live_29 : decode b_Cw_live 29 = .ok (.iconst 1, 1) := by decide +kernel
theorem d_Cw_live_30 : decode b_Cw_live 30 = .ok (.goto 4, 3) := by decide +kernel
theorem d_Cw_live_33 : decode b_Cw_live 33 = .ok (.iconst 0, 1) := by decide +kernel
theorem d_Cw_live_34 : decode b_Cw_live 34 = .ok (.ireturn, 1) := by decide +kernel
theorem d_Cw_targets_0 : decode b_Cw_targets 0 = .ok (.aload_n 0, 1) := by decide +kernel
theorem d_Cw_targets_1 : decode b_Cw_targets 1 = .ok (.iload_n 1, 1) := by decide +kernel
theorem d_Cw_targets_2 : decode b_Cw_targets 2 = .ok (.invokevirtual 105, 3) := by decide +kernel
theorem d_Cw_targets_5 : decode b_Cw_targets 5 = .ok (.ifCond .eq 29, 3) := by decide +kernel
theorem d_Cw_targets_8 : decode b_Cw_targets 8 = .ok (.aload_n 0, 1) := by decide +kernel
theorem d_Cw_targets_9 : decode b_Cw_targets 9 = .ok (.getfield 21, 3) := by decide +kernel
theorem d_Cw_targets_12 : decode b_Cw_targets 12 = .ok (.iload_n 1, 1) := by decide +kernel
theorem d_Cw_targets_13 : decode b_Cw_targets 13 = .ok (.iload_n 2, 1) := by decide +kernel
theorem d_Cw_targets_14 : decode b_Cw_targets 14 = .ok (.invokevirtual 108, 3) := by decide +kernel
theorem d_Cw_targets_17 : decode b_Cw_targets 17 = .ok (.ifCond .eq 17, 3) := by decide +kernel
theorem d_Cw_targets_20 : decode b_Cw_targets 20 = .ok (.aload_n 0, 1) := by decide +kernel
theorem d_Cw_targets_21 : decode b_Cw_targets 21 = .ok (.getfield 17, 3) := by decide +kernel
theorem d_Cw_targets_24 : decode b_Cw_targets 24 = .ok (.iload_n 1, 1) := by decide +kernel
theorem d_Cw_targets_25 : decode b_Cw_targets 25 = .ok (.iload_n 2, 1) := by decide +kernel
theorem d_Cw_targets_26 : decode b_Cw_targets 26 = .ok (.invokevirtual 111, 3) := by decide +kernel
theorem d_Cw_targets_29 : decode b_Cw_targets 29 = .ok (.bipush 17, 2) := by decide +kernel
theorem d_Cw_targets_31 : decode b_Cw_targets 31 = .ok (.if_icmp .eq 5, 3) := by decide +kernel
theorem d_Cw_targets_34 : decode b_Cw_targets 34 = .ok (.iconst (-1), 1) := by decide +kernel
theorem d_Cw_targets_35 : decode b_Cw_targets 35 = .ok (.ireturn, 1) := by decide +kernel
theorem d_Cw_targets_36 : decode b_Cw_targets 36 = .ok (.aload_n 0, 1) := by decide +kernel
theorem d_Cw_targets_37 : decode b_Cw_targets 37 = .ok (.getfield 30, 3) := by decide +kernel
theorem d_Cw_targets_40 : decode b_Cw_targets 40 = .ok (.iload_n 1, 1) := by decide +kernel
theorem d_Cw_targets_41 : decode b_Cw_targets 41 = .ok (.iload_n 2, 1) := by decide +kernel
theorem d_Cw_targets_42 : decode b_Cw_targets 42 = .ok (.invokevirtual 116, 3) := by decide +kernel
theorem d_Cw_targets_45 : decode b_Cw_targets 45 = .ok (.invokestatic 119, 3) := by decide +kernel
theorem d_Cw_targets_48 : decode b_Cw_targets 48 = .ok (.ireturn, 1) := by decide +kernel
theorem d_Cw_run_0 : decode b_Cw_run 0 = .ok (.aload_n 0, 1) := by decide +kernel
theorem d_Cw_run_1 : decode b_Cw_run 1 = .ok (.getfield 41, 3) := by decide +kernel
theorem d_Cw_run_4 : decode b_Cw_run 4 = .ok (.ifCond .eq 14, 3) := by decide +kernel
theorem d_Cw_run_7 : decode b_Cw_run 7 = .ok (.iload_n 2, 1) := by decide +kernel
theorem d_Cw_run_8 : decode b_Cw_run 8 = .ok (.ifCond .lt 10, 3) := by decide +kernel
theorem d_Cw_run_11 : decode b_Cw_run 11 = .ok (.iload_n 2, 1) := by decide +kernel
theorem d_Cw_run_12 : decode b_Cw_run 12 = .ok (.sipush 2000, 3) := by decide +kernel
theorem d_Cw_run_15 : decode b_Cw_run 15 = .ok (.if_icmp .le 5, 3) := by decide +kernel
theorem d_Cw_run_18 : decode b_Cw_run 18 = .ok (.iconst (-1), 1) := by decide +kernel
theorem d_Cw_run_19 : decode b_Cw_run 19 = .ok (.ireturn, 1) := by decide +kernel
theorem d_Cw_run_20 : decode b_Cw_run 20 = .ok (.aload_n 0, 1) := by decide +kernel
theorem d_Cw_run_21 : decode b_Cw_run 21 = .ok (.iconst 1, 1) := by decide +kernel
theorem d_Cw_run_22 : decode b_Cw_run 22 = .ok (.putfield 45, 3) := by decide +kernel
theorem d_Cw_run_25 : decode b_Cw_run 25 = .ok (.aload_n 0, 1) := by decide +kernel
theorem d_Cw_run_26 : decode b_Cw_run 26 = .ok (.getfield 37, 3) := by decide +kernel
theorem d_Cw_run_29 : decode b_Cw_run 29 = .ok (.iload_n 1, 1) := by decide +kernel
theorem d_Cw_run_30 : decode b_Cw_run 30 = .ok (.iload_n 2, 1) := by decide +kernel
theorem d_Cw_run_31 : decode b_Cw_run 31 = .ok (.invokevirtual 124, 3) := by decide +kernel
