theorem d_Cw_run_34 : decode b_Cw_run 34 = .ok (.ireturn, 1) := by decide +kernel
theorem d_Ma_start_0 : decode b_Ma_start 0 = .ok (.aload_n 0, 1) := by decide +kernel
theorem d_Ma_start_1 : decode b_Ma_start 1 = .ok (.getfield 17, 3) := by decide +kernel
theorem d_Ma_start_4 : decode b_Ma_start 4 = .ok (.iconst 0, 1) := by decide +kernel
theorem d_Ma_start_5 : decode b_Ma_start 5 = .ok (.invokestatic 38, 3) := by decide +kernel
theorem d_Ma_start_8 : decode b_Ma_start 8 = .ok (.aload_n 0, 1) := by decide +kernel
theorem d_Ma_start_9 : decode b_Ma_start 9 = .ok (.getfield 21, 3) := by decide +kernel
theorem d_Ma_start_12 : decode b_Ma_start 12 = .ok (.iconst (-1), 1) := by decide +kernel
theorem d_Ma_start_13 : decode b_Ma_start 13 = .ok (.invokestatic 38, 3) := by decide +kernel
theorem d_Ma_start_16 : decode b_Ma_start 16 = .ok (.aload_n 0, 1) := by decide +kernel
theorem d_Ma_start_17 : decode b_Ma_start 17 = .ok (.getfield 30, 3) := by decide +kernel
theorem d_Ma_start_20 : decode b_Ma_start 20 = .ok (.iconst 0, 1) := by decide +kernel
theorem d_Ma_start_21 : decode b_Ma_start 21 = .ok (.invokestatic 38, 3) := by decide +kernel
theorem d_Ma_start_24 : decode b_Ma_start 24 = .ok (.aload_n 0, 1) := by decide +kernel
theorem d_Ma_start_25 : decode b_Ma_start 25 = .ok (.iconst 0, 1) := by decide +kernel
theorem d_Ma_start_26 : decode b_Ma_start 26 = .ok (.putfield 44, 3) := by decide +kernel
theorem d_Ma_start_29 : decode b_Ma_start 29 = .ok (.aload_n 0, 1) := by decide +kernel
theorem d_Ma_start_30 : decode b_Ma_start 30 = .ok (.iconst 0, 1) := by decide +kernel
theorem d_Ma_start_31 : decode b_Ma_start 31 = .ok (.putfield 48, 3) := by decide +kernel
theorem d_Ma_start_34 : decode b_Ma_start 34 = .ok (.aload_n 0, 1) := by decide +kernel
theorem d_Ma_start_35 : decode b_Ma_start 35 = .ok (.iconst 0, 1) := by decide +kernel
theorem d_Ma_start_36 : decode b_Ma_start 36 = .ok (.putfield 51, 3) := by decide +kernel
theorem d_Ma_start_39 : decode b_Ma_start 39 = .ok (.aload_n 0, 1) := by decide +kernel
theorem d_Ma_start_40 : decode b_Ma_start 40 = .ok (.iconst 0, 1) := by decide +kernel
theorem d_Ma_start_41 : decode b_Ma_start 41 = .ok (.putfield 54, 3) := by decide +kernel
theorem d_Ma_start_44 : decode b_Ma_start 44 = .ok (.aload_n 0, 1) := by decide +kernel
theorem d_Ma_start_45 : decode b_Ma_start 45 = .ok (.iload_n 2, 1) := by decide +kernel
theorem d_Ma_start_46 : decode b_Ma_start 46 = .ok (.putfield 57, 3) := by decide +kernel
theorem d_Ma_start_49 : decode b_Ma_start 49 = .ok (.aload_n 0, 1) := by decide +kernel
theorem d_Ma_start_50 : decode b_Ma_start 50 = .ok (.getfield 11, 3) := by decide +kernel
theorem d_Ma_start_53 : decode b_Ma_start 53 = .ok (.iconst 0, 1) := by decide +kernel
theorem d_Ma_start_54 : decode b_Ma_start 54 = .ok (.aaload, 1) := by decide +kernel
theorem d_Ma_start_55 : decode b_Ma_start 55 = .ok (.invokevirtual 60, 3) := by decide +kernel
theorem d_Ma_start_58 : decode b_Ma_start 58 = .ok (.aload_n 0, 1) := by decide +kernel
theorem d_Ma_start_59 : decode b_Ma_start 59 = .ok (.getfield 11, 3) := by decide +kernel
theorem d_Ma_start_62 : decode b_Ma_start 62 = .ok (.iconst 0, 1) := by decide +kernel
theorem d_Ma_start_63 : decode b_Ma_start 63 = .ok (.aaload, 1) := by decide +kernel
theorem d_Ma_start_64 : decode b_Ma_start 64 = .ok (.iload_n 1, 1) := by decide +kernel
theorem d_Ma_start_65 : decode b_Ma_start 65 = .ok (.invokevirtual 63, 3) := by decide +kernel
theorem d_Ma_start_68 : decode b_Ma_start 68 = .ok (.aload_n 0, 1) := by decide +kernel
theorem d_Ma_start_69 : decode b_Ma_start 69 = .ok (.aload_n 0, 1) := by decide +kernel
theorem d_Ma_start_70 : decode b_Ma_start 70 = .ok (.getfield 33, 3) := by decide +kernel
theorem d_Ma_start_73 : decode b_Ma_start 73 = .ok (.iconst 0, 1) := by decide +kernel
theorem d_Ma_start_74 : decode b_Ma_start 74 = .ok (.invokevirtual 67, 3) := by decide +kernel
theorem d_Ma_start_77 : decode b_Ma_start 77 = .ok (.iconst 0, 1) := by decide +kernel
theorem d_Ma_start_78 : decode b_Ma_start 78 = .ok (.invokevirtual 73, 3) := by decide +kernel
theorem d_Ma_start_81 : decode b_Ma_start 81 = .ok (.istore_n 3, 1) := by decide +kernel
theorem d_Ma_start_82 : decode b_Ma_start 82 = .ok (.iload_n 3, 1) := by decide +kernel
theorem d_Ma_start_83 : decode b_Ma_start 83 = .ok (.ifCond .ne 10, 3) := by decide +kernel
theorem d_Ma_start_86 : decode b_Ma_start 86 = .ok (.aload_n 0, 1) := by decide +kernel
theorem d_Ma_start_87 : decode b_Ma_start 87 = .ok (.iconst 0, 1) := by decide +kernel
theorem d_Ma_start_88 : decode b_Ma_start 88 = .ok (.iconst 1, 1) := by decide +kernel
theorem d_Ma_start_89 : decode b_Ma_start 89 = .ok (.invokevirtual 77, 3) := by decide +kernel
theorem d_Ma_start_92 : decode b_Ma_start 92 = .ok (.istore_n 3, 1) := by decide +kernel
theorem d_Ma_start_93 : decode b_Ma_start 93 = .ok (.iload_n 3, 1) := by decide +kernel
theorem d_Ma_start_94 : decode b_Ma_start 94 = .ok (.iconst 2, 1) := by decide +kernel
theorem d_Ma_start_95 : decode b_Ma_start 95 = .ok (.if_icmp .ne 8, 3) := by decide +kernel
theorem d_Ma_start_98 : decode b_Ma_start 98 = .ok (.aload_n 0, 1) := by decide +kernel
theorem d_Ma_start_99 : decode b_Ma_start 99 = .ok (.iconst 0, 1) := by decide +kernel
theorem d_Ma_start_100 : decode b_Ma_start 100 = .ok (.putfield 80, 3) := by decide +kernel
theorem d_Ma_start_103 : decode b_Ma_start 103 = .ok (.iload_n 3, 1) := by decide +kernel
theorem d_Ma_start_104 : decode b_Ma_start 104 = .ok (.ireturn, 1) := by decide +kernel
theorem d_Ma_trigger_0 : decode b_Ma_trigger 0 = .ok (.iconst 0, 1) := by decide +kernel
theorem d_Ma_trigger_1 : decode b_Ma_trigger 1 = .ok (.istore_n 3, 1) := by decide +kernel
theorem d_Ma_trigger_2 : decode b_Ma_trigger 2 = .ok (.iload_n 3, 1) := by decide +kernel
theorem d_Ma_trigger_3 : decode b_Ma_trigger 3 = .ok (.iload_n 1, 1) := by decide +kernel
theorem d_Ma_trigger_4 : decode b_Ma_trigger 4 = .ok (.if_icmp .gt 90, 3) := by decide +kernel
theorem d_Ma_trigger_7 : decode b_Ma_trigger 7 = .ok (.aload_n 0, 1) := by decide +kernel
theorem d_Ma_trigger_8 : decode b_Ma_trigger 8 = .ok (.getfield 33, 3) := by decide +kernel
theorem d_Ma_trigger_11 : decode b_Ma_trigger 11 = .ok (.iload_n 1, 1) := by decide +kernel
theorem d_Ma_trigger_12 : decode b_Ma_trigger 12 = .ok (.iload_n 3, 1) := by decide +kernel
theorem d_Ma_trigger_13 : decode b_Ma_trigger 13 = .ok (.invokevirtual 168, 3) := by decide +kernel
theorem d_Ma_trigger_16 : decode b_Ma_trigger 16 = .ok (.ifCond .eq 72, 3) := by decide +kernel
theorem d_Ma_trigger_19 : decode b_Ma_trigger 19 = .ok (.aload_n 0, 1) := by decide +kernel
theorem d_Ma_trigger_20 : decode b_Ma_trigger 20 = .ok (.getfield 21, 3) := by decide +kernel
theorem d_Ma_trigger_23 : decode b_Ma_trigger 23 = .ok (.iload_n 3, 1) := by decide +kernel
theorem d_Ma_trigger_24 : decode b_Ma_trigger 24 = .ok (.iaload, 1) := by decide +kernel
theorem d_Ma_trigger_25 : decode b_Ma_trigger 25 = .ok (.iconst (-1), 1) := by decide +kernel
theorem d_Ma_trigger_26 : decode b_Ma_trigger 26 = .ok (.if_icmp .ne 62, 3) := by decide +kernel
theorem d_Ma_trigger_29 : decode b_Ma_trigger 29 = .ok (.aload_n 0, 1) := by decide +kernel
theorem d_Ma_trigger_30 : decode b_Ma_trigger 30 = .ok (.getfield 21, 3) := by decide +kernel
theorem d_Ma_trigger_33 : decode b_Ma_trigger 33 = .ok (.iload_n 3, 1) := by decide +kernel
theorem d_Ma_trigger_34 : decode b_Ma_trigger 34 = .ok (.aload_n 0, 1) := by decide +kernel
theorem d_Ma_trigger_35 : decode b_Ma_trigger 35 = .ok (.getfield 44, 3) := by decide +kernel
theorem d_Ma_trigger_38 : decode b_Ma_trigger 38 = .ok (.iastore, 1) := by decide +kernel
theorem d_Ma_trigger_39 : decode b_Ma_trigger 39 = .ok (.aload_n 0, 1) := by decide +kernel
theorem d_Ma_trigger_40 : decode b_Ma_trigger 40 = .ok (.dup, 1) := by decide +kernel
theorem d_Ma_trigger_41 : decode b_Ma_trigger 41 = .ok (.getfield 44, 3) := by decide +kernel
theorem d_Ma_trigger_44 : decode b_Ma_trigger 44 = .ok (.iconst 1, 1) := by decide +kernel
theorem d_Ma_trigger_45 : decode b_Ma_trigger 45 = .ok (.iadd, 1) := by decide +kernel
theorem d_Ma_trigger_46 : decode b_Ma_trigger 46 = .ok (.putfield 44, 3) := by decide +kernel
theorem d_Ma_trigger_49 : decode b_Ma_trigger 49 = .ok (.aload_n 0, 1) := by decide +kernel
theorem d_Ma_trigger_50 : decode b_Ma_trigger 50 = .ok (.getfield 33, 3) := by decide +kernel
theorem d_Ma_trigger_53 : decode b_Ma_trigger 53 = .ok (.iload_n 3, 1) := by decide +kernel
theorem d_Ma_trigger_54 : decode b_Ma_trigger 54 = .ok (.invokevirtual 171, 3) := by decide +kernel
theorem d_Ma_trigger_57 : decode b_Ma_trigger 57 = .ok (.istore 4, 2) := by decide +kernel
theorem d_Ma_trigger_59 : decode b_Ma_trigger 59 = .ok (.iload 4, 2) := by decide +kernel
theorem d_Ma_trigger_61 : decode b_Ma_trigger 61 = .ok (.iconst (-1), 1) := by decide +kernel
theorem d_Ma_trigger_62 : decode b_Ma_trigger 62 = .ok (.if_icmp .ne 7, 3) := by decide +kernel
theorem d_Ma_trigger_65 : decode b_Ma_trigger 65 = .ok (.iconst 0, 1) := by decide +kernel
theorem d_Ma_trigger_66 : decode b_Ma_trigger 66 = .ok (.goto 12, 3) := by decide +kernel
theorem d_Ma_trigger_69 : decode b_Ma_trigger 69 = .ok (.aload_n 0, 1) := by decide +kernel
theorem d_Ma_trigger_70 : decode b_Ma_trigger 70 = .ok (.iload 4, 2) := by decide +kernel
theorem d_Ma_trigger_72 : decode b_Ma_trigger 72 = .ok (.iload_n 2, 1) := by decide +kernel
theorem d_Ma_trigger_73 : decode b_Ma_trigger 73 = .ok (.iconst 1, 1) := by decide +kernel
theorem d_Ma_trigger_74 : decode b_Ma_trigger 74 = .ok (.iadd, 1) := by decide +kernel
theorem d_Ma_trigger_75 : decode b_Ma_trigger 75 = .ok (.invokevirtual 77, 3) := by decide +kernel
theorem d_Ma_trigger_78 : decode b_Ma_trigger 78 = .ok (.istore 5, 2) := by decide +kernel
theorem d_Ma_trigger_80 : decode b_Ma_trigger 80 = .ok (.iload 5, 2) := by decide +kernel
theorem d_Ma_trigger_82 : decode b_Ma_trigger 82 = .ok (.ifCond .eq 6, 3) := by decide +kernel
theorem d_Ma_trigger_85 : decode b_Ma_trigger 85 = .ok (.iload 5, 2) := by decide +kernel
theorem d_Ma_trigger_87 : decode b_Ma_trigger 87 = .ok (.ireturn, 1) := by decide +kernel
theorem d_Ma_trigger_88 : decode b_Ma_trigger 88 = .ok (.iinc 3 1, 3) := by decide +kernel
theorem d_Ma_trigger_91 : decode b_Ma_trigger 91 = .ok (.goto (-89), 3) := by decide +kernel
theorem d_Ma_trigger_94 : decode b_Ma_trigger 94 = .ok (.iconst 0, 1) := by decide +kernel
theorem d_Ma_trigger_95 : decode b_Ma_trigger 95 = .ok (.ireturn, 1) := by decide +kernel
theorem d_Ma_perform_0 : decode b_Ma_perform 0 = .ok (.iload_n 2, 1) := by decide +kernel
theorem d_Ma_perform_1 : decode b_Ma_perform 1 = .ok (.bipush 10, 2) := by decide +kernel
theorem d_Ma_perform_3 : decode b_Ma_perform 3 = .ok (.if_icmp .le 10, 3) := by decide +kernel
theorem d_Ma_perform_6 : decode b_Ma_perform 6 = .ok (.aload_n 0, 1) := by decide +kernel
theorem d_Ma_perform_7 : decode b_Ma_perform 7 = .ok (.bipush (-5), 2) := by decide +kernel
theorem d_Ma_perform_9 : decode b_Ma_perform 9 = .ok (.invokevirtual 87, 3) := by decide +kernel
theorem d_Ma_perform_12 : decode b_Ma_perform 12 = .ok (.ireturn, 1) := by decide +kernel
theorem d_Ma_perform_13 : decode b_Ma_perform 13 = .ok (.aload_n 0, 1) := by decide +kernel
theorem d_Ma_perform_14 : decode b_Ma_perform 14 = .ok (.getfield 11, 3) := by decide +kernel
theorem d_Ma_perform_17 : decode b_Ma_perform 17 = .ok (.iload_n 2, 1) := by decide +kernel
theorem d_Ma_perform_18 : decode b_Ma_perform 18 = .ok (.aaload, 1) := by decide +kernel
theorem d_Ma_perform_19 : decode b_Ma_perform 19 = .ok (.astore_n 3, 1) := by decide +kernel
theorem d_Ma_perform_20 : decode b_Ma_perform 20 = .ok (.aload_n 3, 1) := by decide +kernel
theorem d_Ma_perform_21 : decode b_Ma_perform 21 = .ok (.aload_n 0, 1) := by decide +kernel
theorem d_Ma_perform_22 : decode b_Ma_perform 22 = .ok (.getfield 11, 3) := by decide +kernel
theorem d_Ma_perform_25 : decode b_Ma_perform 25 = .ok (.iload_n 2, 1) := by decide +kernel
theorem d_Ma_perform_26 : decode b_Ma_perform 26 = .ok (.iconst 1, 1) := by decide +kernel
theorem d_Ma_perform_27 : decode b_Ma_perform 27 = .ok (.isub, 1) := by decide +kernel
theorem d_Ma_perform_28 : decode b_Ma_perform 28 = .ok (.aaload, 1) := by decide +kernel
theorem d_Ma_perform_29 : decode b_Ma_perform 29 = .ok (.aload_n 0, 1) := by decide +kernel
theorem d_Ma_perform_30 : decode b_Ma_perform 30 = .ok (.getfield 33, 3) := by decide +kernel
theorem d_Ma_perform_33 : decode b_Ma_perform 33 = .ok (.iload_n 1, 1) := by decide +kernel
theorem d_Ma_perform_34 : decode b_Ma_perform 34 = .ok (.invokevirtual 90, 3) := by decide +kernel
theorem d_Ma_perform_37 : decode b_Ma_perform 37 = .ok (.invokevirtual 93, 3) := by decide +kernel
theorem d_Ma_perform_40 : decode b_Ma_perform 40 = .ok (.iconst 0, 1) := by decide +kernel
theorem d_Ma_perform_41 : decode b_Ma_perform 41 = .ok (.istore 4, 2) := by decide +kernel
theorem d_Ma_perform_43 : decode b_Ma_perform 43 = .ok (.iload 4, 2) := by decide +kernel
theorem d_Ma_perform_45 : decode b_Ma_perform 45 = .ok (.sipush 2000, 3) := by decide +kernel
theorem d_Ma_perform_48 : decode b_Ma_perform 48 = .ok (.if_icmp .gt 134, 3) := by decide +kernel
theorem d_Ma_perform_51 : decode b_Ma_perform 51 = .ok (.aload_n 0, 1) := by decide +kernel
theorem d_Ma_perform_52 : decode b_Ma_perform 52 = .ok (.getfield 54, 3) := by decide +kernel
theorem d_Ma_perform_55 : decode b_Ma_perform 55 = .ok (.aload_n 0, 1) := by decide +kernel
theorem d_Ma_perform_56 : decode b_Ma_perform 56 = .ok (.getfield 57, 3) := by decide +kernel
theorem d_Ma_perform_59 : decode b_Ma_perform 59 = .ok (.if_icmp .lt 5, 3) := by decide +kernel
theorem d_Ma_perform_62 : decode b_Ma_perform 62 = .ok (.iconst 2, 1) := by decide +kernel
theorem d_Ma_perform_63 : decode b_Ma_perform 63 = .ok (.ireturn, 1) := by decide +kernel
theorem d_Ma_perform_64 : decode b_Ma_perform 64 = .ok (.aload_n 0, 1) := by decide +kernel
theorem d_Ma_perform_65 : decode b_Ma_perform 65 = .ok (.dup, 1) := by decide +kernel
theorem d_Ma_perform_66 : decode b_Ma_perform 66 = .ok (.getfield 54, 3) := by decide +kernel
theorem d_Ma_perform_69 : decode b_Ma_perform 69 = .ok (.iconst 1, 1) := by decide +kernel
theorem d_Ma_perform_70 : decode b_Ma_perform 70 = .ok (.iadd, 1) := by decide +kernel
theorem d_Ma_perform_71 : decode b_Ma_perform 71 = .ok (.putfield 54, 3) := by decide +kernel
theorem d_Ma_perform_74 : decode b_Ma_perform 74 = .ok (.aload_n 3, 1) := by decide +kernel
theorem d_Ma_perform_75 : decode b_Ma_perform 75 = .ok (.invokevirtual 97, 3) := by decide +kernel
theorem d_Ma_perform_78 : decode b_Ma_perform 78 = .ok (.istore 5, 2) := by decide +kernel
theorem d_Ma_perform_80 : decode b_Ma_perform 80 = .ok (.aload_n 3, 1) := by decide +kernel
theorem d_Ma_perform_81 : decode b_Ma_perform 81 = .ok (.iload 5, 2) := by decide +kernel
theorem d_Ma_perform_83 : decode b_Ma_perform 83 = .ok (.iconst 1, 1) := by decide +kernel
theorem d_Ma_perform_84 : decode b_Ma_perform 84 = .ok (.iadd, 1) := by decide +kernel
theorem d_Ma_perform_85 : decode b_Ma_perform 85 = .ok (.invokevirtual 101, 3) := by decide +kernel
theorem d_Ma_perform_88 : decode b_Ma_perform 88 = .ok (.aload_n 0, 1) := by decide +kernel
theorem d_Ma_perform_89 : decode b_Ma_perform 89 = .ok (.getfield 33, 3) := by decide +kernel
theorem d_Ma_perform_92 : decode b_Ma_perform 92 = .ok (.iload_n 1, 1) := by decide +kernel
theorem d_Ma_perform_93 : decode b_Ma_perform 93 = .ok (.iload 5, 2) := by decide +kernel
theorem d_Ma_perform_95 : decode b_Ma_perform 95 = .ok (.invokevirtual 104, 3) := by decide +kernel
theorem d_Ma_perform_98 : decode b_Ma_perform 98 = .ok (.istore 6, 2) := by decide +kernel
theorem d_Ma_perform_100 : decode b_Ma_perform 100 = .ok (.aload_n 0, 1) := by decide +kernel
theorem d_Ma_perform_101 : decode b_Ma_perform 101 = .ok (.iload 6, 2) := by decide +kernel
theorem d_Ma_perform_103 : decode b_Ma_perform 103 = .ok (.aload_n 0, 1) := by decide +kernel
theorem d_Ma_perform_104 : decode b_Ma_perform 104 = .ok (.getfield 33, 3) := by decide +kernel
theorem d_Ma_perform_107 : decode b_Ma_perform 107 = .ok (.iload_n 1, 1) := by decide +kernel
theorem d_Ma_perform_108 : decode b_Ma_perform 108 = .ok (.iload 5, 2) := by decide +kernel
theorem d_Ma_perform_110 : decode b_Ma_perform 110 = .ok (.invokevirtual 107, 3) := by decide +kernel
theorem d_Ma_perform_113 : decode b_Ma_perform 113 = .ok (.iload_n 2, 1) := by decide +kernel
theorem d_Ma_perform_114 : decode b_Ma_perform 114 = .ok (.invokevirtual 110, 3) := by decide +kernel
theorem d_Ma_perform_117 : decode b_Ma_perform 117 = .ok (.istore 7, 2) := by decide +kernel
theorem d_Ma_perform_119 : decode b_Ma_perform 119 = .ok (.iload 7, 2) := by decide +kernel
theorem d_Ma_perform_121 : decode b_Ma_perform 121 = .ok (.iconst 2, 1) := by decide +kernel
theorem d_Ma_perform_122 : decode b_Ma_perform 122 = .ok (.if_icmp .eq 15, 3) := by decide +kernel
theorem d_Ma_perform_125 : decode b_Ma_perform 125 = .ok (.iload 7, 2) := by decide +kernel
theorem d_Ma_perform_127 : decode b_Ma_perform 127 = .ok (.ifCond .ne 13, 3) := by decide +kernel
theorem d_Ma_perform_130 : decode b_Ma_perform 130 = .ok (.iload 6, 2) := by decide +kernel
theorem d_Ma_perform_132 : decode b_Ma_perform 132 = .ok (.bipush 22, 2) := by decide +kernel
theorem d_Ma_perform_134 : decode b_Ma_perform 134 = .ok (.if_icmp .ne 6, 3) := by decide +kernel
theorem d_Ma_perform_137 : decode b_Ma_perform 137 = .ok (.iload 7, 2) := by decide +kernel
theorem d_Ma_perform_139 : decode b_Ma_perform 139 = .ok (.ireturn, 1) := by decide +kernel
theorem d_Ma_perform_140 : decode b_Ma_perform 140 = .ok (.iload 7, 2) := by decide +kernel
theorem d_Ma_perform_142 : decode b_Ma_perform 142 = .ok (.iconst 1, 1) := by decide +kernel
theorem d_Ma_perform_143 : decode b_Ma_perform 143 = .ok (.if_icmp .ne 33, 3) := by decide +kernel
theorem d_Ma_perform_146 : decode b_Ma_perform 146 = .ok (.aload_n 0, 1) := by decide +kernel
theorem d_Ma_perform_147 : decode b_Ma_perform 147 = .ok (.getfield 33, 3) := by decide +kernel
theorem d_Ma_perform_150 : decode b_Ma_perform 150 = .ok (.iload_n 1, 1) := by decide +kernel
theorem d_Ma_perform_151 : decode b_Ma_perform 151 = .ok (.iload 5, 2) := by decide +kernel
theorem d_Ma_perform_153 : decode b_Ma_perform 153 = .ok (.invokevirtual 116, 3) := by decide +kernel
theorem d_Ma_perform_156 : decode b_Ma_perform 156 = .ok (.istore 8, 2) := by decide +kernel
theorem d_Ma_perform_158 : decode b_Ma_perform 158 = .ok (.iload 8, 2) := by decide +kernel
theorem d_Ma_perform_160 : decode b_Ma_perform 160 = .ok (.iconst (-1), 1) := by decide +kernel
theorem d_Ma_perform_161 : decode b_Ma_perform 161 = .ok (.if_icmp .ne 5, 3) := by decide +kernel
theorem d_Ma_perform_164 : decode b_Ma_perform 164 = .ok (.iconst 1, 1) := by decide +kernel
theorem d_Ma_perform_165 : decode b_Ma_perform 165 = .ok (.ireturn, 1) := by decide +kernel
theorem d_Ma_perform_166 : decode b_Ma_perform 166 = .ok (.aload_n 3, 1) := by decide +kernel
theorem d_Ma_perform_167 : decode b_Ma_perform 167 = .ok (.iload 8, 2) := by decide +kernel
theorem d_Ma_perform_169 : decode b_Ma_perform 169 = .ok (.aload_n 0, 1) := by decide +kernel
theorem d_Ma_perform_170 : decode b_Ma_perform 170 = .ok (.getfield 80, 3) := by decide +kernel
theorem d_Ma_perform_173 : decode b_Ma_perform 173 = .ok (.invokevirtual 119, 3) := by decide +kernel
theorem d_Ma_perform_176 : decode b_Ma_perform 176 = .ok (.iinc 4 1, 3) := by decide +kernel
theorem d_Ma_perform_179 : decode b_Ma_perform 179 = .ok (.goto (-136), 3) := by decide +kernel
theorem d_Ma_perform_182 : decode b_Ma_perform 182 = .ok (.iconst 2, 1) := by decide +kernel
theorem d_Ma_perform_183 : decode b_Ma_perform 183 = .ok (.ireturn, 1) := by decide +kernel
theorem d_Ma_toss_0 : decode b_Ma_toss 0 = .ok (.aload_n 0, 1) := by decide +kernel
theorem d_Ma_toss_1 : decode b_Ma_toss 1 = .ok (.iload_n 1, 1) := by decide +kernel
theorem d_Ma_toss_2 : decode b_Ma_toss 2 = .ok (.putfield 80, 3) := by decide +kernel
theorem d_Ma_toss_5 : decode b_Ma_toss 5 = .ok (.iconst 1, 1) := by decide +kernel
theorem d_Ma_toss_6 : decode b_Ma_toss 6 = .ok (.ireturn, 1) := by decide +kernel
theorem d_Fr_beginFrom_0 : decode b_Fr_beginFrom 0 = .ok (.aload_n 0, 1) := by decide +kernel
theorem d_Fr_beginFrom_1 : decode b_Fr_beginFrom 1 = .ok (.invokevirtual 28, 3) := by decide +kernel
theorem d_Fr_beginFrom_4 : decode b_Fr_beginFrom 4 = .ok (.iload_n 2, 1) := by decide +kernel
theorem d_Fr_beginFrom_5 : decode b_Fr_beginFrom 5 = .ok (.iconst 1, 1) := by decide +kernel
theorem d_Fr_beginFrom_6 : decode b_Fr_beginFrom 6 = .ok (.isub, 1) := by decide +kernel
theorem d_Fr_beginFrom_7 : decode b_Fr_beginFrom 7 = .ok (.istore_n 3, 1) := by decide +kernel
theorem d_Fr_beginFrom_8 : decode b_Fr_beginFrom 8 = .ok (.iload_n 3, 1) := by decide +kernel
theorem d_Fr_beginFrom_9 : decode b_Fr_beginFrom 9 = .ok (.ifCond .lt 18, 3) := by decide +kernel
theorem d_Fr_beginFrom_12 : decode b_Fr_beginFrom 12 = .ok (.aload_n 0, 1) := by decide +kernel
theorem d_Fr_beginFrom_13 : decode b_Fr_beginFrom 13 = .ok (.iload_n 3, 1) := by decide +kernel
theorem d_Fr_beginFrom_14 : decode b_Fr_beginFrom 14 = .ok (.aload_n 1, 1) := by decide +kernel
theorem d_Fr_beginFrom_15 : decode b_Fr_beginFrom 15 = .ok (.invokevirtual 31, 3) := by decide +kernel
theorem d_Fr_beginFrom_18 : decode b_Fr_beginFrom 18 = .ok (.invokevirtual 35, 3) := by decide +kernel
theorem d_Fr_beginFrom_21 : decode b_Fr_beginFrom 21 = .ok (.iinc 3 (-1), 3) := by decide +kernel
theorem d_Fr_beginFrom_24 : decode b_Fr_beginFrom 24 = .ok (.goto (-16), 3) := by decide +kernel
theorem d_Fr_beginFrom_27 : decode b_Fr_beginFrom 27 = .ok (.return_, 1) := by decide +kernel
theorem d_Fr_next_0 : decode b_Fr_next 0 = .ok (.aload_n 0, 1) := by decide +kernel
theorem d_Fr_next_1 : decode b_Fr_next 1 = .ok (.getfield 25, 3) := by decide +kernel
theorem d_Fr_next_4 : decode b_Fr_next 4 = .ok (.ireturn, 1) := by decide +kernel
theorem d_Fr_setNext_0 : decode b_Fr_setNext 0 = .ok (.aload_n 0, 1) := by decide +kernel
theorem d_Fr_setNext_1 : decode b_Fr_setNext 1 = .ok (.iload_n 1, 1) := by decide +kernel
theorem d_Fr_setNext_2 : decode b_Fr_setNext 2 = .ok (.putfield 25, 3) := by decide +kernel
theorem d_Fr_setNext_5 : decode b_Fr_setNext 5 = .ok (.return_, 1) := by decide +kernel
theorem d_Ma_execute_0 : decode b_Ma_execute 0 = .ok (.aload_n 0, 1) := by decide +kernel
theorem d_Ma_execute_1 : decode b_Ma_execute 1 = .ok (.getfield 11, 3) := by decide +kernel
theorem d_Ma_execute_4 : decode b_Ma_execute 4 = .ok (.iload_n 3, 1) := by decide +kernel
theorem d_Ma_execute_5 : decode b_Ma_execute 5 = .ok (.aaload, 1) := by decide +kernel
theorem d_Ma_execute_6 : decode b_Ma_execute 6 = .ok (.astore 4, 2) := by decide +kernel
theorem d_Ma_execute_8 : decode b_Ma_execute 8 = .ok (.iload_n 1, 1) := by decide +kernel
theorem d_Ma_execute_9 : decode b_Ma_execute 9 = .ok (.tableswitch 246 0 22 #[107, 115, 123, 136, 149, 157, 157, 157, 157, 165, 173, 246, 221, 221, 246, 246, 246, 239, 230, 230, 189, 200, 210], 107) := by decide +kernel
theorem d_Ma_execute_116 : decode b_Ma_execute 116 = .ok (.aload 4, 2) := by decide +kernel
theorem d_Ma_execute_118 : decode b_Ma_execute 118 = .ok (.iload_n 2, 1) := by decide +kernel
theorem d_Ma_execute_119 : decode b_Ma_execute 119 = .ok (.invokevirtual 63, 3) := by decide +kernel
theorem d_Ma_execute_122 : decode b_Ma_execute 122 = .ok (.iconst 0, 1) := by decide +kernel
theorem d_Ma_execute_123 : decode b_Ma_execute 123 = .ok (.ireturn, 1) := by decide +kernel
theorem d_Ma_execute_124 : decode b_Ma_execute 124 = .ok (.aload 4, 2) := by decide +kernel
theorem d_Ma_execute_126 : decode b_Ma_execute 126 = .ok (.iconst (-1), 1) := by decide +kernel
theorem d_Ma_execute_127 : decode b_Ma_execute 127 = .ok (.invokevirtual 63, 3) := by decide +kernel
theorem d_Ma_execute_130 : decode b_Ma_execute 130 = .ok (.iconst 0, 1) := by decide +kernel
theorem d_Ma_execute_131 : decode b_Ma_execute 131 = .ok (.ireturn, 1) := by decide +kernel
theorem d_Ma_execute_132 : decode b_Ma_execute 132 = .ok (.aload 4, 2) := by decide +kernel
theorem d_Ma_execute_134 : decode b_Ma_execute 134 = .ok (.aload 4, 2) := by decide +kernel
theorem d_Ma_execute_136 : decode b_Ma_execute 136 = .ok (.iload_n 2, 1) := by decide +kernel
theorem d_Ma_execute_137 : decode b_Ma_execute 137 = .ok (.invokevirtual 123, 3) := by decide +kernel
theorem d_Ma_execute_140 : decode b_Ma_execute 140 = .ok (.invokevirtual 63, 3) := by decide +kernel
theorem d_Ma_execute_143 : decode b_Ma_execute 143 = .ok (.iconst 0, 1) := by decide +kernel
theorem d_Ma_execute_144 : decode b_Ma_execute 144 = .ok (.ireturn, 1) := by decide +kernel
theorem d_Ma_execute_145 : decode b_Ma_execute 145 = .ok (.aload 4, 2) := by decide +kernel
theorem d_Ma_execute_147 : decode b_Ma_execute 147 = .ok (.iload_n 2, 1) := by decide +kernel
theorem d_Ma_execute_148 : decode b_Ma_execute 148 = .ok (.aload 4, 2) := by decide +kernel
theorem d_Ma_execute_150 : decode b_Ma_execute 150 = .ok (.invokevirtual 126, 3) := by decide +kernel
theorem d_Ma_execute_153 : decode b_Ma_execute 153 = .ok (.invokevirtual 129, 3) := by decide +kernel
theorem d_Ma_execute_156 : decode b_Ma_execute 156 = .ok (.iconst 0, 1) := by decide +kernel
theorem d_Ma_execute_157 : decode b_Ma_execute 157 = .ok (.ireturn, 1) := by decide +kernel
theorem d_Ma_execute_158 : decode b_Ma_execute 158 = .ok (.aload 4, 2) := by decide +kernel
theorem d_Ma_execute_160 : decode b_Ma_execute 160 = .ok (.invokevirtual 126, 3) := by decide +kernel
theorem d_Ma_execute_163 : decode b_Ma_execute 163 = .ok (.pop, 1) := by decide +kernel
theorem d_Ma_execute_164 : decode b_Ma_execute 164 = .ok (.iconst 0, 1) := by decide +kernel
theorem d_Ma_execute_165 : decode b_Ma_execute 165 = .ok (.ireturn, 1) := by decide +kernel
theorem d_Ma_execute_166 : decode b_Ma_execute 166 = .ok (.aload_n 0, 1) := by decide +kernel
theorem d_Ma_execute_167 : decode b_Ma_execute 167 = .ok (.iload_n 1, 1) := by decide +kernel
theorem d_Ma_execute_168 : decode b_Ma_execute 168 = .ok (.aload 4, 2) := by decide +kernel
theorem d_Ma_execute_170 : decode b_Ma_execute 170 = .ok (.invokevirtual 132, 3) := by decide +kernel
theorem d_Ma_execute_173 : decode b_Ma_execute 173 = .ok (.ireturn, 1) := by decide +kernel
theorem d_Ma_execute_174 : decode b_Ma_execute 174 = .ok (.aload 4, 2) := by decide +kernel
theorem d_Ma_execute_176 : decode b_Ma_execute 176 = .ok (.iload_n 2, 1) := by decide +kernel
theorem d_Ma_execute_177 : decode b_Ma_execute 177 = .ok (.invokevirtual 101, 3) := by decide +kernel
theorem d_Ma_execute_180 : decode b_Ma_execute 180 = .ok (.iconst 0, 1) := by decide +kernel
theorem d_Ma_execute_181 : decode b_Ma_execute 181 = .ok (.ireturn, 1) := by decide +kernel
theorem d_Ma_execute_182 : decode b_Ma_execute 182 = .ok (.aload 4, 2) := by decide +kernel
theorem d_Ma_execute_184 : decode b_Ma_execute 184 = .ok (.invokevirtual 126, 3) := by decide +kernel
theorem d_Ma_execute_187 : decode b_Ma_execute 187 = .ok (.ifCond .gt 9, 3) := by decide +kernel
theorem d_Ma_execute_190 : decode b_Ma_execute 190 = .ok (.aload 4, 2) := by decide +kernel
theorem d_Ma_execute_192 : decode b_Ma_execute 192 = .ok (.iload_n 2, 1) := by decide +kernel
theorem d_Ma_execute_193 : decode b_Ma_execute 193 = .ok (.invokevirtual 101, 3) := by decide +kernel
theorem d_Ma_execute_196 : decode b_Ma_execute 196 = .ok (.iconst 0, 1) := by decide +kernel
theorem d_Ma_execute_197 : decode b_Ma_execute 197 = .ok (.ireturn, 1) := by decide +kernel
theorem d_Ma_execute_198 : decode b_Ma_execute 198 = .ok (.aload_n 0, 1) := by decide +kernel
theorem d_Ma_execute_199 : decode b_Ma_execute 199 = .ok (.aload 4, 2) := by decide +kernel
theorem d_Ma_execute_201 : decode b_Ma_execute 201 = .ok (.invokevirtual 126, 3) := by decide +kernel
theorem d_Ma_execute_204 : decode b_Ma_execute 204 = .ok (.invokevirtual 136, 3) := by decide +kernel
theorem d_Ma_execute_207 : decode b_Ma_execute 207 = .ok (.iconst 0, 1) := by decide +kernel
theorem d_Ma_execute_208 : decode b_Ma_execute 208 = .ok (.ireturn, 1) := by decide +kernel
theorem d_Ma_execute_209 : decode b_Ma_execute 209 = .ok (.aload_n 0, 1) := by decide +kernel
theorem d_Ma_execute_210 : decode b_Ma_execute 210 = .ok (.aload 4, 2) := by decide +kernel
theorem d_Ma_execute_212 : decode b_Ma_execute 212 = .ok (.invokevirtual 126, 3) := by decide +kernel
theorem d_Ma_execute_215 : decode b_Ma_execute 215 = .ok (.invokevirtual 87, 3) := by decide +kernel
theorem d_Ma_execute_218 : decode b_Ma_execute 218 = .ok (.ireturn, 1) := by decide +kernel
theorem d_Ma_execute_219 : decode b_Ma_execute 219 = .ok (.aload_n 0, 1) := by decide +kernel
theorem d_Ma_execute_220 : decode b_Ma_execute 220 = .ok (.aload 4, 2) := by decide +kernel
theorem d_Ma_execute_222 : decode b_Ma_execute 222 = .ok (.invokevirtual 126, 3) := by decide +kernel
theorem d_Ma_execute_225 : decode b_Ma_execute 225 = .ok (.putfield 80, 3) := by decide +kernel
theorem d_Ma_execute_228 : decode b_Ma_execute 228 = .ok (.iconst 0, 1) := by decide +kernel
theorem d_Ma_execute_229 : decode b_Ma_execute 229 = .ok (.ireturn, 1) := by decide +kernel
theorem d_Ma_execute_230 : decode b_Ma_execute 230 = .ok (.aload_n 0, 1) := by decide +kernel
theorem d_Ma_execute_231 : decode b_Ma_execute 231 = .ok (.iload_n 1, 1) := by decide +kernel
theorem d_Ma_execute_232 : decode b_Ma_execute 232 = .ok (.iload_n 2, 1) := by decide +kernel
theorem d_Ma_execute_233 : decode b_Ma_execute 233 = .ok (.aload 4, 2) := by decide +kernel
theorem d_Ma_execute_235 : decode b_Ma_execute 235 = .ok (.invokevirtual 139, 3) := by decide +kernel
theorem d_Ma_execute_238 : decode b_Ma_execute 238 = .ok (.ireturn, 1) := by decide +kernel
theorem d_Ma_execute_239 : decode b_Ma_execute 239 = .ok (.aload_n 0, 1) := by decide +kernel
theorem d_Ma_execute_240 : decode b_Ma_execute 240 = .ok (.iload_n 1, 1) := by decide +kernel
theorem d_Ma_execute_241 : decode b_Ma_execute 241 = .ok (.iload_n 2, 1) := by decide +kernel
theorem d_Ma_execute_242 : decode b_Ma_execute 242 = .ok (.aload 4, 2) := by decide +kernel
theorem d_Ma_execute_244 : decode b_Ma_execute 244 = .ok (.invokevirtual 143, 3) := by decide +kernel
theorem d_Ma_execute_247 : decode b_Ma_execute 247 = .ok (.ireturn, 1) := by decide +kernel
theorem d_Ma_execute_248 : decode b_Ma_execute 248 = .ok (.aload_n 0, 1) := by decide +kernel
theorem d_Ma_execute_249 : decode b_Ma_execute 249 = .ok (.iload_n 2, 1) := by decide +kernel
theorem d_Ma_execute_250 : decode b_Ma_execute 250 = .ok (.iload_n 3, 1) := by decide +kernel
theorem d_Ma_execute_251 : decode b_Ma_execute 251 = .ok (.invokevirtual 146, 3) := by decide +kernel
theorem d_Ma_execute_254 : decode b_Ma_execute 254 = .ok (.ireturn, 1) := by decide +kernel
theorem d_Ma_execute_255 : decode b_Ma_execute 255 = .ok (.aload_n 0, 1) := by decide +kernel
theorem d_Ma_execute_256 : decode b_Ma_execute 256 = .ok (.iload_n 1, 1) := by decide +kernel
theorem d_Ma_execute_257 : decode b_Ma_execute 257 = .ok (.iload_n 2, 1) := by decide +kernel
theorem d_Ma_execute_258 : decode b_Ma_execute 258 = .ok (.iload_n 3, 1) := by decide +kernel
theorem d_Ma_execute_259 : decode b_Ma_execute 259 = .ok (.invokevirtual 149, 3) := by decide +kernel
theorem d_Ma_execute_262 : decode b_Ma_execute 262 = .ok (.ireturn, 1) := by decide +kernel
theorem d_Ma_calculate_0 : decode b_Ma_calculate 0 = .ok (.aload_n 2, 1) := by decide +kernel
theorem d_Ma_calculate_1 : decode b_Ma_calculate 1 = .ok (.invokevirtual 126, 3) := by decide +kernel
theorem d_Ma_calculate_4 : decode b_Ma_calculate 4 = .ok (.istore_n 3, 1) := by decide +kernel
theorem d_Ma_calculate_5 : decode b_Ma_calculate 5 = .ok (.aload_n 2, 1) := by decide +kernel
theorem d_Ma_calculate_6 : decode b_Ma_calculate 6 = .ok (.invokevirtual 126, 3) := by decide +kernel
theorem d_Ma_calculate_9 : decode b_Ma_calculate 9 = .ok (.istore 4, 2) := by decide +kernel
theorem d_Ma_calculate_11 : decode b_Ma_calculate 11 = .ok (.iload_n 1, 1) := by decide +kernel
theorem d_Ma_calculate_12 : decode b_Ma_calculate 12 = .ok (.tableswitch 58 5 7 #[28, 38, 48], 28) := by decide +kernel
theorem d_Ma_calculate_40 : decode b_Ma_calculate 40 = .ok (.aload_n 2, 1) := by decide +kernel
theorem d_Ma_calculate_41 : decode b_Ma_calculate 41 = .ok (.iload 4, 2) := by decide +kernel
theorem d_Ma_calculate_43 : decode b_Ma_calculate 43 = .ok (.iload_n 3, 1) := by decide +kernel
theorem d_Ma_calculate_44 : decode b_Ma_calculate 44 = .ok (.iadd, 1) := by decide +kernel
theorem d_Ma_calculate_45 : decode b_Ma_calculate 45 = .ok (.invokevirtual 63, 3) := by decide +kernel
theorem d_Ma_calculate_48 : decode b_Ma_calculate 48 = .ok (.iconst 0, 1) := by decide +kernel
theorem d_Ma_calculate_49 : decode b_Ma_calculate 49 = .ok (.ireturn, 1) := by decide +kernel
theorem d_Ma_calculate_50 : decode b_Ma_calculate 50 = .ok (.aload_n 2, 1) := by decide +kernel
theorem d_Ma_calculate_51 : decode b_Ma_calculate 51 = .ok (.iload 4, 2) := by decide +kernel
theorem d_Ma_calculate_53 : decode b_Ma_calculate 53 = .ok (.iload_n 3, 1) := by decide +kernel
theorem d_Ma_calculate_54 : decode b_Ma_calculate 54 = .ok (.isub, 1) := by decide +kernel
theorem d_Ma_calculate_55 : decode b_Ma_calculate 55 = .ok (.invokevirtual 63, 3) := by decide +kernel
theorem d_Ma_calculate_58 : decode b_Ma_calculate 58 = .ok (.iconst 0, 1) := by decide +kernel
theorem d_Ma_calculate_59 : decode b_Ma_calculate 59 = .ok (.ireturn, 1) := by decide +kernel
theorem d_Ma_calculate_60 : decode b_Ma_calculate 60 = .ok (.aload_n 2, 1) := by decide +kernel
theorem d_Ma_calculate_61 : decode b_Ma_calculate 61 = .ok (.iload 4, 2) := by decide +kernel
theorem d_Ma_calculate_63 : decode b_Ma_calculate 63 = .ok (.iload_n 3, 1) := by decide +kernel
theorem d_Ma_calculate_64 : decode b_Ma_calculate 64 = .ok (.imul, 1) := by decide +kernel
theorem d_Ma_calculate_65 : decode b_Ma_calculate 65 = .ok (.invokevirtual 63, 3) := by decide +kernel
theorem d_Ma_calculate_68 : decode b_Ma_calculate 68 = .ok (.iconst 0, 1) := by decide +kernel
theorem d_Ma_calculate_69 : decode b_Ma_calculate 69 = .ok (.ireturn, 1) := by decide +kernel
theorem d_Ma_calculate_70 : decode b_Ma_calculate 70 = .ok (.iload_n 3, 1) := by decide +kernel
theorem d_Ma_calculate_71 : decode b_Ma_calculate 71 = .ok (.ifCond .ne 10, 3) := by decide +kernel
theorem d_Ma_calculate_74 : decode b_Ma_calculate 74 = .ok (.aload_n 0, 1) := by decide +kernel
theorem d_Ma_calculate_75 : decode b_Ma_calculate 75 = .ok (.bipush (-2), 2) := by decide +kernel
theorem d_Ma_calculate_77 : decode b_Ma_calculate 77 = .ok (.invokevirtual 87, 3) := by decide +kernel
theorem d_Ma_calculate_80 : decode b_Ma_calculate 80 = .ok (.ireturn, 1) := by decide +kernel
theorem d_Ma_calculate_81 : decode b_Ma_calculate 81 = .ok (.aload_n 2, 1) := by decide +kernel
theorem d_Ma_calculate_82 : decode b_Ma_calculate 82 = .ok (.iload 4, 2) := by decide +kernel
theorem d_Ma_calculate_84 : decode b_Ma_calculate 84 = .ok (.iload_n 3, 1) := by decide +kernel
theorem d_Ma_calculate_85 : decode b_Ma_calculate 85 = .ok (.idiv, 1) := by decide +kernel
theorem d_Ma_calculate_86 : decode b_Ma_calculate 86 = .ok (.invokevirtual 63, 3) := by decide +kernel
theorem d_Ma_calculate_89 : decode b_Ma_calculate 89 = .ok (.iconst 0, 1) := by decide +kernel
theorem d_Ma_calculate_90 : decode b_Ma_calculate 90 = .ok (.ireturn, 1) := by decide +kernel
theorem d_Ma_print_0 : decode b_Ma_print 0 = .ok (.aload_n 0, 1) := by decide +kernel
theorem d_Ma_print_1 : decode b_Ma_print 1 = .ok (.getfield 51, 3) := by decide +kernel
theorem d_Ma_print_4 : decode b_Ma_print 4 = .ok (.bipush 16, 2) := by decide +kernel
theorem d_Ma_print_6 : decode b_Ma_print 6 = .ok (.if_icmp .ge 13, 3) := by decide +kernel
theorem d_Ma_print_9 : decode b_Ma_print 9 = .ok (.aload_n 0, 1) := by decide +kernel
theorem d_Ma_print_10 : decode b_Ma_print 10 = .ok (.getfield 30, 3) := by decide +kernel
theorem d_Ma_print_13 : decode b_Ma_print 13 = .ok (.aload_n 0, 1) := by decide +kernel
theorem d_Ma_print_14 : decode b_Ma_print 14 = .ok (.getfield 51, 3) := by decide +kernel
theorem d_Ma_print_17 : decode b_Ma_print 17 = .ok (.iload_n 1, 1) := by decide +kernel
theorem d_Ma_print_18 : decode b_Ma_print 18 = .ok (.iastore, 1) := by decide +kernel
theorem d_Ma_print_19 : decode b_Ma_print 19 = .ok (.aload_n 0, 1) := by decide +kernel
theorem d_Ma_print_20 : decode b_Ma_print 20 = .ok (.dup, 1) := by decide +kernel
theorem d_Ma_print_21 : decode b_Ma_print 21 = .ok (.getfield 51, 3) := by decide +kernel
theorem d_Ma_print_24 : decode b_Ma_print 24 = .ok (.iconst 1, 1) := by decide +kernel
theorem d_Ma_print_25 : decode b_Ma_print 25 = .ok (.iadd, 1) := by decide +kernel
theorem d_Ma_print_26 : decode b_Ma_print 26 = .ok (.putfield 51, 3) := by decide +kernel
theorem d_Ma_print_29 : decode b_Ma_print 29 = .ok (.return_, 1) := by decide +kernel
theorem d_Ma_accessField_0 : decode b_Ma_accessField 0 = .ok (.iload_n 1, 1) := by decide +kernel
theorem d_Ma_accessField_1 : decode b_Ma_accessField 1 = .ok (.bipush 13, 2) := by decide +kernel
theorem d_Ma_accessField_3 : decode b_Ma_accessField 3 = .ok (.if_icmp .ne 10, 3) := by decide +kernel
theorem d_Ma_accessField_6 : decode b_Ma_accessField 6 = .ok (.aload_n 3, 1) := by decide +kernel
theorem d_Ma_accessField_7 : decode b_Ma_accessField 7 = .ok (.invokevirtual 126, 3) := by decide +kernel
theorem d_Ma_accessField_10 : decode b_Ma_accessField 10 = .ok (.goto 4, 3) := by decide +kernel
theorem d_Ma_accessField_13 : decode b_Ma_accessField 13 = .ok (.iconst 0, 1) := by decide +kernel
theorem d_Ma_accessField_14 : decode b_Ma_accessField 14 = .ok (.istore 4, 2) := by decide +kernel
theorem d_Ma_accessField_16 : decode b_Ma_accessField 16 = .ok (.aload_n 3, 1) := by decide +kernel
theorem d_Ma_accessField_17 : decode b_Ma_accessField 17 = .ok (.invokevirtual 126, 3) := by decide +kernel
theorem d_Ma_accessField_20 : decode b_Ma_accessField 20 = .ok (.istore 5, 2) := by decide +kernel
theorem d_Ma_accessField_22 : decode b_Ma_accessField 22 = .ok (.aload_n 0, 1) := by decide +kernel
theorem d_Ma_accessField_23 : decode b_Ma_accessField 23 = .ok (.iload 5, 2) := by decide +kernel
theorem d_Ma_accessField_25 : decode b_Ma_accessField 25 = .ok (.invokevirtual 161, 3) := by decide +kernel
theorem d_Ma_accessField_28 : decode b_Ma_accessField 28 = .ok (.ifCond .eq 9, 3) := by decide +kernel
theorem d_Ma_accessField_31 : decode b_Ma_accessField 31 = .ok (.aload_n 0, 1) := by decide +kernel
theorem d_Ma_accessField_32 : decode b_Ma_accessField 32 = .ok (.iconst (-1), 1) := by decide +kernel
theorem d_Ma_accessField_33 : decode b_Ma_accessField 33 = .ok (.invokevirtual 87, 3) := by decide +kernel
theorem d_Ma_accessField_36 : decode b_Ma_accessField 36 = .ok (.ireturn, 1) := by decide +kernel
theorem d_Ma_accessField_37 : decode b_Ma_accessField 37 = .ok (.iload 5, 2) := by decide +kernel
theorem d_Ma_accessField_39 : decode b_Ma_accessField 39 = .ok (.bipush 6, 2) := by decide +kernel
theorem d_Ma_accessField_41 : decode b_Ma_accessField 41 = .ok (.imul, 1) := by decide +kernel
theorem d_Ma_accessField_42 : decode b_Ma_accessField 42 = .ok (.iload_n 2, 1) := by decide +kernel
theorem d_Ma_accessField_43 : decode b_Ma_accessField 43 = .ok (.iadd, 1) := by decide +kernel
theorem d_Ma_accessField_44 : decode b_Ma_accessField 44 = .ok (.istore 6, 2) := by decide +kernel
theorem d_Ma_accessField_46 : decode b_Ma_accessField 46 = .ok (.iload_n 1, 1) := by decide +kernel
theorem d_Ma_accessField_47 : decode b_Ma_accessField 47 = .ok (.bipush 13, 2) := by decide +kernel
theorem d_Ma_accessField_49 : decode b_Ma_accessField 49 = .ok (.if_icmp .ne 15, 3) := by decide +kernel
theorem d_Ma_accessField_52 : decode b_Ma_accessField 52 = .ok (.aload_n 0, 1) := by decide +kernel
theorem d_Ma_accessField_53 : decode b_Ma_accessField 53 = .ok (.getfield 27, 3) := by decide +kernel
theorem d_Ma_accessField_56 : decode b_Ma_accessField 56 = .ok (.iload 6, 2) := by decide +kernel
theorem d_Ma_accessField_58 : decode b_Ma_accessField 58 = .ok (.iload 4, 2) := by decide +kernel
theorem d_Ma_accessField_60 : decode b_Ma_accessField 60 = .ok (.iastore, 1) := by decide +kernel
theorem d_Ma_accessField_61 : decode b_Ma_accessField 61 = .ok (.goto 14, 3) := by decide +kernel
theorem d_Ma_accessField_64 : decode b_Ma_accessField 64 = .ok (.aload_n 3, 1) := by decide +kernel
theorem d_Ma_accessField_65 : decode b_Ma_accessField 65 = .ok (.aload_n 0, 1) := by decide +kernel
theorem d_Ma_accessField_66 : decode b_Ma_accessField 66 = .ok (.getfield 27, 3) := by decide +kernel
theorem d_Ma_accessField_69 : decode b_Ma_accessField 69 = .ok (.iload 6, 2) := by decide +kernel
theorem d_Ma_accessField_71 : decode b_Ma_accessField 71 = .ok (.iaload, 1) := by decide +kernel
theorem d_Ma_accessField_72 : decode b_Ma_accessField 72 = .ok (.invokevirtual 63, 3) := by decide +kernel
theorem d_Ma_accessField_75 : decode b_Ma_accessField 75 = .ok (.iconst 0, 1) := by decide +kernel
theorem d_Ma_accessField_76 : decode b_Ma_accessField 76 = .ok (.ireturn, 1) := by decide +kernel
theorem d_Ma_isNull_0 : decode b_Ma_isNull 0 = .ok (.iload_n 1, 1) := by decide +kernel
theorem d_Ma_isNull_1 : decode b_Ma_isNull 1 = .ok (.aload_n 0, 1) := by decide +kernel
theorem d_Ma_isNull_2 : decode b_Ma_isNull 2 = .ok (.getfield 48, 3) := by decide +kernel
theorem d_Ma_isNull_5 : decode b_Ma_isNull 5 = .ok (.invokestatic 83, 3) := by decide +kernel
theorem d_Ma_isNull_8 : decode b_Ma_isNull 8 = .ok (.ifCond .ne 7, 3) := by decide +kernel
theorem d_Ma_isNull_11 : decode b_Ma_isNull 11 = .ok (.iconst 1, 1) := by decide +kernel
theorem d_Ma_isNull_12 : decode b_Ma_isNull 12 = .ok (.goto 4, 3) := by decide +kernel
theorem d_Ma_isNull_15 : decode b_Ma_isNull 15 = .ok (.iconst 0, 1) := by decide +kernel
theorem d_Ma_isNull_16 : decode b_Ma_isNull 16 = .ok (.ireturn, 1) := by decide +kernel
theorem d_Ma_testType_0 : decode b_Ma_testType 0 = .ok (.aload_n 3, 1) := by decide +kernel
theorem d_Ma_testType_1 : decode b_Ma_testType 1 = .ok (.invokevirtual 126, 3) := by decide +kernel
theorem d_Ma_testType_4 : decode b_Ma_testType 4 = .ok (.istore 4, 2) := by decide +kernel
theorem d_Ma_testType_6 : decode b_Ma_testType 6 = .ok (.aload_n 0, 1) := by decide +kernel
theorem d_Ma_testType_7 : decode b_Ma_testType 7 = .ok (.iload 4, 2) := by decide +kernel
theorem d_Ma_testType_9 : decode b_Ma_testType 9 = .ok (.invokevirtual 161, 3) := by decide +kernel
theorem d_Ma_testType_12 : decode b_Ma_testType 12 = .ok (.ifCond .ne 25, 3) := by decide +kernel
theorem d_Ma_testType_15 : decode b_Ma_testType 15 = .ok (.aload_n 0, 1) := by decide +kernel
theorem d_Ma_testType_16 : decode b_Ma_testType 16 = .ok (.getfield 33, 3) := by decide +kernel
theorem d_Ma_testType_19 : decode b_Ma_testType 19 = .ok (.aload_n 0, 1) := by decide +kernel
theorem d_Ma_testType_20 : decode b_Ma_testType 20 = .ok (.getfield 24, 3) := by decide +kernel
theorem d_Ma_testType_23 : decode b_Ma_testType 23 = .ok (.iload 4, 2) := by decide +kernel
theorem d_Ma_testType_25 : decode b_Ma_testType 25 = .ok (.iaload, 1) := by decide +kernel
theorem d_Ma_testType_26 : decode b_Ma_testType 26 = .ok (.iload_n 2, 1) := by decide +kernel
theorem d_Ma_testType_27 : decode b_Ma_testType 27 = .ok (.invokevirtual 168, 3) := by decide +kernel
theorem d_Ma_testType_30 : decode b_Ma_testType 30 = .ok (.ifCond .eq 7, 3) := by decide +kernel
theorem d_Ma_testType_33 : decode b_Ma_testType 33 = .ok (.iconst 1, 1) := by decide +kernel
theorem d_Ma_testType_34 : decode b_Ma_testType 34 = .ok (.goto 4, 3) := by decide +kernel
theorem d_Ma_testType_37 : decode b_Ma_testType 37 = .ok (.iconst 0, 1) := by decide +kernel
theorem d_Ma_testType_38 : decode b_Ma_testType 38 = .ok (.istore 5, 2) := by decide +kernel
theorem d_Ma_testType_40 : decode b_Ma_testType 40 = .ok (.iload_n 1, 1) := by decide +kernel
theorem d_Ma_testType_41 : decode b_Ma_testType 41 = .ok (.bipush 19, 2) := by decide +kernel
theorem d_Ma_testType_43 : decode b_Ma_testType 43 = .ok (.if_icmp .ne 19, 3) := by decide +kernel
theorem d_Ma_testType_46 : decode b_Ma_testType 46 = .ok (.aload_n 3, 1) := by decide +kernel
theorem d_Ma_testType_47 : decode b_Ma_testType 47 = .ok (.iload 5, 2) := by decide +kernel
theorem d_Ma_testType_49 : decode b_Ma_testType 49 = .ok (.ifCond .eq 7, 3) := by decide +kernel
theorem d_Ma_testType_52 : decode b_Ma_testType 52 = .ok (.iconst 1, 1) := by decide +kernel
theorem d_Ma_testType_53 : decode b_Ma_testType 53 = .ok (.goto 4, 3) := by decide +kernel
theorem d_Ma_testType_56 : decode b_Ma_testType 56 = .ok (.iconst 0, 1) := by decide +kernel
theorem d_Ma_testType_57 : decode b_Ma_testType 57 = .ok (.invokevirtual 63, 3) := by decide +kernel
theorem d_Ma_testType_60 : decode b_Ma_testType 60 = .ok (.iconst 0, 1) := by decide +kernel
theorem d_Ma_testType_61 : decode b_Ma_testType 61 = .ok (.ireturn, 1) := by decide +kernel
theorem d_Ma_testType_62 : decode b_Ma_testType 62 = .ok (.aload_n 0, 1) := by decide +kernel
theorem d_Ma_testType_63 : decode b_Ma_testType 63 = .ok (.iload 4, 2) := by decide +kernel
theorem d_Ma_testType_65 : decode b_Ma_testType 65 = .ok (.invokevirtual 161, 3) := by decide +kernel
theorem d_Ma_testType_68 : decode b_Ma_testType 68 = .ok (.ifCond .ne 15, 3) := by decide +kernel
theorem d_Ma_testType_71 : decode b_Ma_testType 71 = .ok (.iload 5, 2) := by decide +kernel
theorem d_Ma_testType_73 : decode b_Ma_testType 73 = .ok (.ifCond .ne 10, 3) := by decide +kernel
theorem d_Ma_testType_76 : decode b_Ma_testType 76 = .ok (.aload_n 0, 1) := by decide +kernel
theorem d_Ma_testType_77 : decode b_Ma_testType 77 = .ok (.bipush (-3), 2) := by decide +kernel
theorem d_Ma_testType_79 : decode b_Ma_testType 79 = .ok (.invokevirtual 87, 3) := by decide +kernel
theorem d_Ma_testType_82 : decode b_Ma_testType 82 = .ok (.ireturn, 1) := by decide +kernel
theorem d_Ma_testType_83 : decode b_Ma_testType 83 = .ok (.aload_n 3, 1) := by decide +kernel
theorem d_Ma_testType_84 : decode b_Ma_testType 84 = .ok (.iload 4, 2) := by decide +kernel
theorem d_Ma_testType_86 : decode b_Ma_testType 86 = .ok (.invokevirtual 63, 3) := by decide +kernel
theorem d_Ma_testType_89 : decode b_Ma_testType 89 = .ok (.iconst 0, 1) := by decide +kernel
theorem d_Ma_testType_90 : decode b_Ma_testType 90 = .ok (.ireturn, 1) := by decide +kernel
theorem d_Ma_send_0 : decode b_Ma_send 0 = .ok (.aload_n 0, 1) := by decide +kernel
theorem d_Ma_send_1 : decode b_Ma_send 1 = .ok (.getfield 11, 3) := by decide +kernel
theorem d_Ma_send_4 : decode b_Ma_send 4 = .ok (.iload_n 2, 1) := by decide +kernel
theorem d_Ma_send_5 : decode b_Ma_send 5 = .ok (.aaload, 1) := by decide +kernel
theorem d_Ma_send_6 : decode b_Ma_send 6 = .ok (.invokevirtual 158, 3) := by decide +kernel
theorem d_Ma_send_9 : decode b_Ma_send 9 = .ok (.istore_n 3, 1) := by decide +kernel
theorem d_Ma_send_10 : decode b_Ma_send 10 = .ok (.aload_n 0, 1) := by decide +kernel
theorem d_Ma_send_11 : decode b_Ma_send 11 = .ok (.iload_n 3, 1) := by decide +kernel
theorem d_Ma_send_12 : decode b_Ma_send 12 = .ok (.invokevirtual 161, 3) := by decide +kernel
theorem d_Ma_send_15 : decode b_Ma_send 15 = .ok (.ifCond .eq 9, 3) := by decide +kernel
theorem d_Ma_send_18 : decode b_Ma_send 18 = .ok (.aload_n 0, 1) := by decide +kernel
theorem d_Ma_send_19 : decode b_Ma_send 19 = .ok (.iconst (-1), 1) := by decide +kernel
theorem d_Ma_send_20 : decode b_Ma_send 20 = .ok (.invokevirtual 87, 3) := by decide +kernel
theorem d_Ma_send_23 : decode b_Ma_send 23 = .ok (.ireturn, 1) := by decide +kernel
theorem d_Ma_send_24 : decode b_Ma_send 24 = .ok (.aload_n 0, 1) := by decide +kernel
theorem d_Ma_send_25 : decode b_Ma_send 25 = .ok (.getfield 33, 3) := by decide +kernel
theorem d_Ma_send_28 : decode b_Ma_send 28 = .ok (.aload_n 0, 1) := by decide +kernel
theorem d_Ma_send_29 : decode b_Ma_send 29 = .ok (.getfield 24, 3) := by decide +kernel
theorem d_Ma_send_32 : decode b_Ma_send 32 = .ok (.iload_n 3, 1) := by decide +kernel
theorem d_Ma_send_33 : decode b_Ma_send 33 = .ok (.iaload, 1) := by decide +kernel
theorem d_Ma_send_34 : decode b_Ma_send 34 = .ok (.iload_n 1, 1) := by decide +kernel
theorem d_Ma_send_35 : decode b_Ma_send 35 = .ok (.invokevirtual 165, 3) := by decide +kernel
theorem d_Ma_send_38 : decode b_Ma_send 38 = .ok (.istore 4, 2) := by decide +kernel
theorem d_Ma_send_40 : decode b_Ma_send 40 = .ok (.aload_n 0, 1) := by decide +kernel
theorem d_Ma_send_41 : decode b_Ma_send 41 = .ok (.aload_n 0, 1) := by decide +kernel
theorem d_Ma_send_42 : decode b_Ma_send 42 = .ok (.iload 4, 2) := by decide +kernel
theorem d_Ma_send_44 : decode b_Ma_send 44 = .ok (.iload_n 2, 1) := by decide +kernel
theorem d_Ma_send_45 : decode b_Ma_send 45 = .ok (.iconst 1, 1) := by decide +kernel
theorem d_Ma_send_46 : decode b_Ma_send 46 = .ok (.iadd, 1) := by decide +kernel
theorem d_Ma_send_47 : decode b_Ma_send 47 = .ok (.invokevirtual 77, 3) := by decide +kernel
theorem d_Ma_send_50 : decode b_Ma_send 50 = .ok (.aload_n 0, 1) := by decide +kernel
theorem d_Ma_send_51 : decode b_Ma_send 51 = .ok (.getfield 11, 3) := by decide +kernel
theorem d_Ma_send_54 : decode b_Ma_send 54 = .ok (.iload_n 2, 1) := by decide +kernel
theorem d_Ma_send_55 : decode b_Ma_send 55 = .ok (.aaload, 1) := by decide +kernel
theorem d_Ma_send_56 : decode b_Ma_send 56 = .ok (.invokevirtual 155, 3) := by decide +kernel
theorem d_Ma_send_59 : decode b_Ma_send 59 = .ok (.ireturn, 1) := by decide +kernel
theorem d_Fr_second_0 : decode b_Fr_second 0 = .ok (.aload_n 0, 1) := by decide +kernel
theorem d_Fr_second_1 : decode b_Fr_second 1 = .ok (.getfield 21, 3) := by decide +kernel
theorem d_Fr_second_4 : decode b_Fr_second 4 = .ok (.iconst 2, 1) := by decide +kernel
theorem d_Fr_second_5 : decode b_Fr_second 5 = .ok (.if_icmp .lt 19, 3) := by decide +kernel
theorem d_Fr_second_8 : decode b_Fr_second 8 = .ok (.aload_n 0, 1) := by decide +kernel
theorem d_Fr_second_9 : decode b_Fr_second 9 = .ok (.getfield 9, 3) := by decide +kernel
theorem d_Fr_second_12 : decode b_Fr_second 12 = .ok (.iconst 4, 1) := by decide +kernel
theorem d_Fr_second_13 : decode b_Fr_second 13 = .ok (.aload_n 0, 1) := by decide +kernel
theorem d_Fr_second_14 : decode b_Fr_second 14 = .ok (.getfield 21, 3) := by decide +kernel
theorem d_Fr_second_17 : decode b_Fr_second 17 = .ok (.iadd, 1) := by decide +kernel
theorem d_Fr_second_18 : decode b_Fr_second 18 = .ok (.iconst 2, 1) := by decide +kernel
theorem d_Fr_second_19 : decode b_Fr_second 19 = .ok (.isub, 1) := by decide +kernel
theorem d_Fr_second_20 : decode b_Fr_second 20 = .ok (.iaload, 1) := by decide +kernel
theorem d_Fr_second_21 : decode b_Fr_second 21 = .ok (.goto 5, 3) := by decide +kernel
theorem d_Fr_second_24 : decode b_Fr_second 24 = .ok (.bipush 8, 2) := by decide +kernel
theorem d_Fr_second_26 : decode b_Fr_second 26 = .ok (.ireturn, 1) := by decide +kernel
theorem d_Ma_receive_0 : decode b_Ma_receive 0 = .ok (.iload_n 1, 1) := by decide +kernel
theorem d_Ma_receive_1 : decode b_Ma_receive 1 = .ok (.ifCond .ne 11, 3) := by decide +kernel
theorem d_Ma_receive_4 : decode b_Ma_receive 4 = .ok (.aload_n 2, 1) := by decide +kernel
theorem d_Ma_receive_5 : decode b_Ma_receive 5 = .ok (.aload_n 0, 1) := by decide +kernel
theorem d_Ma_receive_6 : decode b_Ma_receive 6 = .ok (.getfield 80, 3) := by decide +kernel
theorem d_Ma_receive_9 : decode b_Ma_receive 9 = .ok (.invokevirtual 63, 3) := by decide +kernel
theorem d_Ma_receive_12 : decode b_Ma_receive 12 = .ok (.iload_n 1, 1) := by decide +kernel
theorem d_Ma_receive_13 : decode b_Ma_receive 13 = .ok (.ireturn, 1) := by decide +kernel
theorem d_Ma_executeTriggering_0 : decode b_Ma_executeTriggering 0 = .ok (.aload_n 0, 1) := by decide +kernel
theorem d_Ma_executeTriggering_1 : decode b_Ma_executeTriggering 1 = .ok (.iload_n 1, 1) := by decide +kernel
theorem d_Ma_executeTriggering_2 : decode b_Ma_executeTriggering 2 = .ok (.bipush 16, 2) := by decide +kernel
theorem d_Ma_executeTriggering_4 : decode b_Ma_executeTriggering 4 = .ok (.if_icmp .ne 14, 3) := by decide +kernel
theorem d_Ma_executeTriggering_7 : decode b_Ma_executeTriggering 7 = .ok (.aload_n 0, 1) := by decide +kernel
theorem d_Ma_executeTriggering_8 : decode b_Ma_executeTriggering 8 = .ok (.getfield 33, 3) := by decide +kernel
theorem d_Ma_executeTriggering_11 : decode b_Ma_executeTriggering 11 = .ok (.iload_n 2, 1) := by decide +kernel
theorem d_Ma_executeTriggering_12 : decode b_Ma_executeTriggering 12 = .ok (.invokevirtual 67, 3) := by decide +kernel
theorem d_Ma_executeTriggering_15 : decode b_Ma_executeTriggering 15 = .ok (.goto 4, 3) := by decide +kernel
theorem d_Ma_executeTriggering_18 : decode b_Ma_executeTriggering 18 = .ok (.iload_n 2, 1) := by decide +kernel
theorem d_Ma_executeTriggering_19 : decode b_Ma_executeTriggering 19 = .ok (.iload_n 3, 1) := by decide +kernel
theorem d_Ma_executeTriggering_20 : decode b_Ma_executeTriggering 20 = .ok (.invokevirtual 73, 3) := by decide +kernel
theorem d_Ma_executeTriggering_23 : decode b_Ma_executeTriggering 23 = .ok (.istore 4, 2) := by decide +kernel
theorem d_Ma_executeTriggering_25 : decode b_Ma_executeTriggering 25 = .ok (.iload 4, 2) := by decide +kernel
theorem d_Ma_executeTriggering_27 : decode b_Ma_executeTriggering 27 = .ok (.ifCond .eq 6, 3) := by decide +kernel
theorem d_Ma_executeTriggering_30 : decode b_Ma_executeTriggering 30 = .ok (.iload 4, 2) := by decide +kernel
theorem d_Ma_executeTriggering_32 : decode b_Ma_executeTriggering 32 = .ok (.ireturn, 1) := by decide +kernel
theorem d_Ma_executeTriggering_33 : decode b_Ma_executeTriggering 33 = .ok (.aload_n 0, 1) := by decide +kernel
theorem d_Ma_executeTriggering_34 : decode b_Ma_executeTriggering 34 = .ok (.getfield 11, 3) := by decide +kernel
theorem d_Ma_executeTriggering_37 : decode b_Ma_executeTriggering 37 = .ok (.iload_n 3, 1) := by decide +kernel
theorem d_Ma_executeTriggering_38 : decode b_Ma_executeTriggering 38 = .ok (.aaload, 1) := by decide +kernel
theorem d_Ma_executeTriggering_39 : decode b_Ma_executeTriggering 39 = .ok (.astore 5, 2) := by decide +kernel
theorem d_Ma_executeTriggering_41 : decode b_Ma_executeTriggering 41 = .ok (.iload_n 1, 1) := by decide +kernel
theorem d_Ma_executeTriggering_42 : decode b_Ma_executeTriggering 42 = .ok (.tableswitch 87 11 16 #[38, 87, 87, 46, 59, 72], 38) := by decide +kernel
theorem d_Ma_executeTriggering_80 : decode b_Ma_executeTriggering 80 = .ok (.aload_n 0, 1) := by decide +kernel
theorem d_Ma_executeTriggering_81 : decode b_Ma_executeTriggering 81 = .ok (.iload_n 2, 1) := by decide +kernel
theorem d_Ma_executeTriggering_82 : decode b_Ma_executeTriggering 82 = .ok (.aload 5, 2) := by decide +kernel
theorem d_Ma_executeTriggering_84 : decode b_Ma_executeTriggering 84 = .ok (.invokevirtual 152, 3) := by decide +kernel
theorem d_Ma_executeTriggering_87 : decode b_Ma_executeTriggering 87 = .ok (.ireturn, 1) := by decide +kernel
theorem d_Ma_executeTriggering_88 : decode b_Ma_executeTriggering 88 = .ok (.aload 5, 2) := by decide +kernel
theorem d_Ma_executeTriggering_90 : decode b_Ma_executeTriggering 90 = .ok (.aload_n 0, 1) := by decide +kernel
theorem d_Ma_executeTriggering_91 : decode b_Ma_executeTriggering 91 = .ok (.getfield 17, 3) := by decide +kernel
theorem d_Ma_executeTriggering_94 : decode b_Ma_executeTriggering 94 = .ok (.iload_n 2, 1) := by decide +kernel
theorem d_Ma_executeTriggering_95 : decode b_Ma_executeTriggering 95 = .ok (.iaload, 1) := by decide +kernel
theorem d_Ma_executeTriggering_96 : decode b_Ma_executeTriggering 96 = .ok (.invokevirtual 63, 3) := by decide +kernel
theorem d_Ma_executeTriggering_99 : decode b_Ma_executeTriggering 99 = .ok (.iconst 0, 1) := by decide +kernel
theorem d_Ma_executeTriggering_100 : decode b_Ma_executeTriggering 100 = .ok (.ireturn, 1) := by decide +kernel
theorem d_Ma_executeTriggering_101 : decode b_Ma_executeTriggering 101 = .ok (.aload_n 0, 1) := by decide +kernel
theorem d_Ma_executeTriggering_102 : decode b_Ma_executeTriggering 102 = .ok (.getfield 17, 3) := by decide +kernel
theorem d_Ma_executeTriggering_105 : decode b_Ma_executeTriggering 105 = .ok (.iload_n 2, 1) := by decide +kernel
theorem d_Ma_executeTriggering_106 : decode b_Ma_executeTriggering 106 = .ok (.aload 5, 2) := by decide +kernel
theorem d_Ma_executeTriggering_108 : decode b_Ma_executeTriggering 108 = .ok (.invokevirtual 126, 3) := by decide +kernel
theorem d_Ma_executeTriggering_111 : decode b_Ma_executeTriggering 111 = .ok (.iastore, 1) := by decide +kernel
theorem d_Ma_executeTriggering_112 : decode b_Ma_executeTriggering 112 = .ok (.iconst 0, 1) := by decide +kernel
theorem d_Ma_executeTriggering_113 : decode b_Ma_executeTriggering 113 = .ok (.ireturn, 1) := by decide +kernel
theorem d_Ma_executeTriggering_114 : decode b_Ma_executeTriggering 114 = .ok (.aload_n 0, 1) := by decide +kernel
theorem d_Ma_executeTriggering_115 : decode b_Ma_executeTriggering 115 = .ok (.aload_n 0, 1) := by decide +kernel
theorem d_Ma_executeTriggering_116 : decode b_Ma_executeTriggering 116 = .ok (.iload_n 2, 1) := by decide +kernel
theorem d_Ma_executeTriggering_117 : decode b_Ma_executeTriggering 117 = .ok (.iload_n 3, 1) := by decide +kernel
theorem d_Ma_executeTriggering_118 : decode b_Ma_executeTriggering 118 = .ok (.iconst 1, 1) := by decide +kernel
theorem d_Ma_executeTriggering_119 : decode b_Ma_executeTriggering 119 = .ok (.iadd, 1) := by decide +kernel
theorem d_Ma_executeTriggering_120 : decode b_Ma_executeTriggering 120 = .ok (.invokevirtual 77, 3) := by decide +kernel
theorem d_Ma_executeTriggering_123 : decode b_Ma_executeTriggering 123 = .ok (.aload 5, 2) := by decide +kernel
theorem d_Ma_executeTriggering_125 : decode b_Ma_executeTriggering 125 = .ok (.invokevirtual 155, 3) := by decide +kernel
theorem d_Ma_executeTriggering_128 : decode b_Ma_executeTriggering 128 = .ok (.ireturn, 1) := by decide +kernel
theorem d_Ma_executeTriggering_129 : decode b_Ma_executeTriggering 129 = .ok (.iconst 0, 1) := by decide +kernel
theorem d_Ma_executeTriggering_130 : decode b_Ma_executeTriggering 130 = .ok (.ireturn, 1) := by decide +kernel
theorem d_Ma_makeObject_0 : decode b_Ma_makeObject 0 = .ok (.aload_n 0, 1) := by decide +kernel
theorem d_Ma_makeObject_1 : decode b_Ma_makeObject 1 = .ok (.getfield 48, 3) := by decide +kernel
theorem d_Ma_makeObject_4 : decode b_Ma_makeObject 4 = .ok (.bipush 16, 2) := by decide +kernel
theorem d_Ma_makeObject_6 : decode b_Ma_makeObject 6 = .ok (.if_icmp .lt 10, 3) := by decide +kernel
theorem d_Ma_makeObject_9 : decode b_Ma_makeObject 9 = .ok (.aload_n 0, 1) := by decide +kernel
theorem d_Ma_makeObject_10 : decode b_Ma_makeObject 10 = .ok (.bipush (-4), 2) := by decide +kernel
theorem d_Ma_makeObject_12 : decode b_Ma_makeObject 12 = .ok (.invokevirtual 87, 3) := by decide +kernel
theorem d_Ma_makeObject_15 : decode b_Ma_makeObject 15 = .ok (.ireturn, 1) := by decide +kernel
theorem d_Ma_makeObject_16 : decode b_Ma_makeObject 16 = .ok (.aload_n 0, 1) := by decide +kernel
theorem d_Ma_makeObject_17 : decode b_Ma_makeObject 17 = .ok (.getfield 48, 3) := by decide +kernel
theorem d_Ma_makeObject_20 : decode b_Ma_makeObject 20 = .ok (.bipush 6, 2) := by decide +kernel
theorem d_Ma_makeObject_22 : decode b_Ma_makeObject 22 = .ok (.imul, 1) := by decide +kernel
theorem d_Ma_makeObject_23 : decode b_Ma_makeObject 23 = .ok (.istore_n 3, 1) := by decide +kernel
theorem d_Ma_makeObject_24 : decode b_Ma_makeObject 24 = .ok (.aload_n 0, 1) := by decide +kernel
theorem d_Ma_makeObject_25 : decode b_Ma_makeObject 25 = .ok (.getfield 27, 3) := by decide +kernel
theorem d_Ma_makeObject_28 : decode b_Ma_makeObject 28 = .ok (.iload_n 3, 1) := by decide +kernel
theorem d_Ma_makeObject_29 : decode b_Ma_makeObject 29 = .ok (.iload_n 3, 1) := by decide +kernel
theorem d_Ma_makeObject_30 : decode b_Ma_makeObject 30 = .ok (.bipush 6, 2) := by decide +kernel
theorem d_Ma_makeObject_32 : decode b_Ma_makeObject 32 = .ok (.iadd, 1) := by decide +kernel
theorem d_Ma_makeObject_33 : decode b_Ma_makeObject 33 = .ok (.iconst 0, 1) := by decide +kernel
theorem d_Ma_makeObject_34 : decode b_Ma_makeObject 34 = .ok (.invokestatic 174, 3) := by decide +kernel
theorem d_Ma_makeObject_37 : decode b_Ma_makeObject 37 = .ok (.aload_n 0, 1) := by decide +kernel
theorem d_Ma_makeObject_38 : decode b_Ma_makeObject 38 = .ok (.getfield 24, 3) := by decide +kernel
theorem d_Ma_makeObject_41 : decode b_Ma_makeObject 41 = .ok (.aload_n 0, 1) := by decide +kernel
theorem d_Ma_makeObject_42 : decode b_Ma_makeObject 42 = .ok (.getfield 48, 3) := by decide +kernel
theorem d_Ma_makeObject_45 : decode b_Ma_makeObject 45 = .ok (.iload_n 1, 1) := by decide +kernel
theorem d_Ma_makeObject_46 : decode b_Ma_makeObject 46 = .ok (.iastore, 1) := by decide +kernel
theorem d_Ma_makeObject_47 : decode b_Ma_makeObject 47 = .ok (.aload_n 2, 1) := by decide +kernel
theorem d_Ma_makeObject_48 : decode b_Ma_makeObject 48 = .ok (.aload_n 0, 1) := by decide +kernel
theorem d_Ma_makeObject_49 : decode b_Ma_makeObject 49 = .ok (.getfield 48, 3) := by decide +kernel
theorem d_Ma_makeObject_52 : decode b_Ma_makeObject 52 = .ok (.invokevirtual 63, 3) := by decide +kernel
theorem d_Ma_makeObject_55 : decode b_Ma_makeObject 55 = .ok (.aload_n 0, 1) := by decide +kernel
theorem d_Ma_makeObject_56 : decode b_Ma_makeObject 56 = .ok (.dup, 1) := by decide +kernel
theorem d_Ma_makeObject_57 : decode b_Ma_makeObject 57 = .ok (.getfield 48, 3) := by decide +kernel
theorem d_Ma_makeObject_60 : decode b_Ma_makeObject 60 = .ok (.iconst 1, 1) := by decide +kernel
theorem d_Ma_makeObject_61 : decode b_Ma_makeObject 61 = .ok (.iadd, 1) := by decide +kernel
theorem d_Ma_makeObject_62 : decode b_Ma_makeObject 62 = .ok (.putfield 48, 3) := by decide +kernel
theorem d_Ma_makeObject_65 : decode b_Ma_makeObject 65 = .ok (.iconst 0, 1) := by decide +kernel
theorem d_Ma_makeObject_66 : decode b_Ma_makeObject 66 = .ok (.ireturn, 1) := by decide +kernel
theorem d_Cw_result_0 : decode b_Cw_result 0 = .ok (.aload_n 0, 1) := by decide +kernel
theorem d_Cw_result_1 : decode b_Cw_result 1 = .ok (.getfield 45, 3) := by decide +kernel
theorem d_Cw_result_4 : decode b_Cw_result 4 = .ok (.ifCond .eq 13, 3) := by decide +kernel
theorem d_Cw_result_7 : decode b_Cw_result 7 = .ok (.aload_n 0, 1) := by decide +kernel
theorem d_Cw_result_8 : decode b_Cw_result 8 = .ok (.getfield 37, 3) := by decide +kernel
theorem d_Cw_result_11 : decode b_Cw_result 11 = .ok (.invokevirtual 127, 3) := by decide +kernel
theorem d_Cw_result_14 : decode b_Cw_result 14 = .ok (.goto 4, 3) := by decide +kernel
theorem d_Cw_result_17 : decode b_Cw_result 17 = .ok (.iconst 0, 1) := by decide +kernel
theorem d_Cw_result_18 : decode b_Cw_result 18 = .ok (.ireturn, 1) := by decide +kernel
theorem d_Ma_finalValue_0 : decode b_Ma_finalValue 0 = .ok (.aload_n 0, 1) := by decide +kernel
theorem d_Ma_finalValue_1 : decode b_Ma_finalValue 1 = .ok (.getfield 80, 3) := by decide +kernel
theorem d_Ma_finalValue_4 : decode b_Ma_finalValue 4 = .ok (.ireturn, 1) := by decide +kernel
theorem d_Cw_steps_0 : decode b_Cw_steps 0 = .ok (.aload_n 0, 1) := by decide +kernel
theorem d_Cw_steps_1 : decode b_Cw_steps 1 = .ok (.getfield 45, 3) := by decide +kernel
theorem d_Cw_steps_4 : decode b_Cw_steps 4 = .ok (.ifCond .eq 13, 3) := by decide +kernel
theorem d_Cw_steps_7 : decode b_Cw_steps 7 = .ok (.aload_n 0, 1) := by decide +kernel
theorem d_Cw_steps_8 : decode b_Cw_steps 8 = .ok (.getfield 37, 3) := by decide +kernel
theorem d_Cw_steps_11 : decode b_Cw_steps 11 = .ok (.invokevirtual 130, 3) := by decide +kernel
theorem d_Cw_steps_14 : decode b_Cw_steps 14 = .ok (.goto 4, 3) := by decide +kernel
theorem d_Cw_steps_17 : decode b_Cw_steps 17 = .ok (.iconst (-1), 1) := by decide +kernel
theorem d_Cw_steps_18 : decode b_Cw_steps 18 = .ok (.ireturn, 1) := by decide +kernel
theorem d_Ma_stepCount_0 : decode b_Ma_stepCount 0 = .ok (.aload_n 0, 1) := by decide +kernel
theorem d_Ma_stepCount_1 : decode b_Ma_stepCount 1 = .ok (.getfield 54, 3) := by decide +kernel
theorem d_Ma_stepCount_4 : decode b_Ma_stepCount 4 = .ok (.ireturn, 1) := by decide +kernel
theorem d_Cw_prints_0 : decode b_Cw_prints 0 = .ok (.aload_n 0, 1) := by decide +kernel
theorem d_Cw_prints_1 : decode b_Cw_prints 1 = .ok (.getfield 45, 3) := by decide +kernel
theorem d_Cw_prints_4 : decode b_Cw_prints 4 = .ok (.ifCond .eq 13, 3) := by decide +kernel
theorem d_Cw_prints_7 : decode b_Cw_prints 7 = .ok (.aload_n 0, 1) := by decide +kernel
theorem d_Cw_prints_8 : decode b_Cw_prints 8 = .ok (.getfield 37, 3) := by decide +kernel
theorem d_Cw_prints_11 : decode b_Cw_prints 11 = .ok (.invokevirtual 133, 3) := by decide +kernel
theorem d_Cw_prints_14 : decode b_Cw_prints 14 = .ok (.goto 4, 3) := by decide +kernel
theorem d_Cw_prints_17 : decode b_Cw_prints 17 = .ok (.iconst (-1), 1) := by decide +kernel
theorem d_Cw_prints_18 : decode b_Cw_prints 18 = .ok (.ireturn, 1) := by decide +kernel
theorem d_Ma_printCount_0 : decode b_Ma_printCount 0 = .ok (.aload_n 0, 1) := by decide +kernel
theorem d_Ma_printCount_1 : decode b_Ma_printCount 1 = .ok (.getfield 51, 3) := by decide +kernel
theorem d_Ma_printCount_4 : decode b_Ma_printCount 4 = .ok (.ireturn, 1) := by decide +kernel
theorem d_Cw_printed_0 : decode b_Cw_printed 0 = .ok (.aload_n 0, 1) := by decide +kernel
theorem d_Cw_printed_1 : decode b_Cw_printed 1 = .ok (.getfield 45, 3) := by decide +kernel
theorem d_Cw_printed_4 : decode b_Cw_printed 4 = .ok (.ifCond .eq 14, 3) := by decide +kernel
theorem d_Cw_printed_7 : decode b_Cw_printed 7 = .ok (.aload_n 0, 1) := by decide +kernel
theorem d_Cw_printed_8 : decode b_Cw_printed 8 = .ok (.getfield 37, 3) := by decide +kernel
theorem d_Cw_printed_11 : decode b_Cw_printed 11 = .ok (.iload_n 1, 1) := by decide +kernel
theorem d_Cw_printed_12 : decode b_Cw_printed 12 = .ok (.invokevirtual 136, 3) := by decide +kernel
theorem d_Cw_printed_15 : decode b_Cw_printed 15 = .ok (.goto 4, 3) := by decide +kernel
theorem d_Cw_printed_18 : decode b_Cw_printed 18 = .ok (.iconst 0, 1) := by decide +kernel
theorem d_Cw_printed_19 : decode b_Cw_printed 19 = .ok (.ireturn, 1) := by decide +kernel
theorem d_Ma_printOf_0 : decode b_Ma_printOf 0 = .ok (.iload_n 1, 1) := by decide +kernel
theorem d_Ma_printOf_1 : decode b_Ma_printOf 1 = .ok (.bipush 16, 2) := by decide +kernel
theorem d_Ma_printOf_3 : decode b_Ma_printOf 3 = .ok (.invokestatic 83, 3) := by decide +kernel
theorem d_Ma_printOf_6 : decode b_Ma_printOf 6 = .ok (.ifCond .eq 12, 3) := by decide +kernel
