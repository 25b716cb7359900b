theorem d_Mo_before_66 : decode b_Mo_before 66 = .ok (.istore 6, 2) := by decide +kernel
theorem d_Mo_before_68 : decode b_Mo_before 68 = .ok (.iload_n 3, 1) := by decide +kernel
theorem d_Mo_before_69 : decode b_Mo_before 69 = .ok (.iload 6, 2) := by decide +kernel
theorem d_Mo_before_71 : decode b_Mo_before 71 = .ok (.ifCond .ne 30, 3) := by decide +kernel
theorem d_Mo_before_74 : decode b_Mo_before 74 = .ok (.iload 5, 2) := by decide +kernel
theorem d_Mo_before_76 : decode b_Mo_before 76 = .ok (.ifCond .lt 29, 3) := by decide +kernel
theorem d_Mo_before_79 : decode b_Mo_before 79 = .ok (.aload_n 0, 1) := by decide +kernel
theorem d_Mo_before_80 : decode b_Mo_before 80 = .ok (.getfield 19, 3) := by decide +kernel
theorem d_Mo_before_83 : decode b_Mo_before 83 = .ok (.iload 5, 2) := by decide +kernel
theorem d_Mo_before_85 : decode b_Mo_before 85 = .ok (.iaload, 1) := by decide +kernel
theorem d_Mo_before_86 : decode b_Mo_before 86 = .ok (.aload_n 0, 1) := by decide +kernel
theorem d_Mo_before_87 : decode b_Mo_before 87 = .ok (.getfield 19, 3) := by decide +kernel
theorem d_Mo_before_90 : decode b_Mo_before 90 = .ok (.iload_n 2, 1) := by decide +kernel
theorem d_Mo_before_91 : decode b_Mo_before 91 = .ok (.iaload, 1) := by decide +kernel
theorem d_Mo_before_92 : decode b_Mo_before 92 = .ok (.if_icmp .ne 13, 3) := by decide +kernel
theorem d_Mo_before_95 : decode b_Mo_before 95 = .ok (.iload 5, 2) := by decide +kernel
theorem d_Mo_before_97 : decode b_Mo_before 97 = .ok (.iload_n 2, 1) := by decide +kernel
theorem d_Mo_before_98 : decode b_Mo_before 98 = .ok (.if_icmp .ge 7, 3) := by decide +kernel
theorem d_Mo_before_101 : decode b_Mo_before 101 = .ok (.iconst 1, 1) := by decide +kernel
theorem d_Mo_before_102 : decode b_Mo_before 102 = .ok (.goto 4, 3) := by decide +kernel
theorem d_Mo_before_105 : decode b_Mo_before 105 = .ok (.iconst 0, 1) := by decide +kernel
theorem d_Mo_before_106 : decode b_Mo_before 106 = .ok (.iadd, 1) := by decide +kernel
theorem d_Mo_before_107 : decode b_Mo_before 107 = .ok (.istore_n 3, 1) := by decide +kernel
theorem d_Mo_before_108 : decode b_Mo_before 108 = .ok (.iinc 4 1, 3) := by decide +kernel
theorem d_Mo_before_111 : decode b_Mo_before 111 = .ok (.goto (-106), 3) := by decide +kernel
theorem d_Mo_before_114 : decode b_Mo_before 114 = .ok (.iload_n 3, 1) := by decide +kernel
theorem d_Mo_before_115 : decode b_Mo_before 115 = .ok (.ireturn, 1) := by decide +kernel
theorem d_Mo_isOf_0 : decode b_Mo_isOf 0 = .ok (.iload_n 1, 1) := by decide +kernel
theorem d_Mo_isOf_1 : decode b_Mo_isOf 1 = .ok (.istore_n 3, 1) := by decide +kernel
theorem d_Mo_isOf_2 : decode b_Mo_isOf 2 = .ok (.iconst 0, 1) := by decide +kernel
theorem d_Mo_isOf_3 : decode b_Mo_isOf 3 = .ok (.istore 4, 2) := by decide +kernel
theorem d_Mo_isOf_5 : decode b_Mo_isOf 5 = .ok (.iload 4, 2) := by decide +kernel
theorem d_Mo_isOf_7 : decode b_Mo_isOf 7 = .ok (.bipush 6, 2) := by decide +kernel
theorem d_Mo_isOf_9 : decode b_Mo_isOf 9 = .ok (.if_icmp .ge 25, 3) := by decide +kernel
theorem d_Mo_isOf_12 : decode b_Mo_isOf 12 = .ok (.iload_n 3, 1) := by decide +kernel
theorem d_Mo_isOf_13 : decode b_Mo_isOf 13 = .ok (.ifCond .lt 21, 3) := by decide +kernel
theorem d_Mo_isOf_16 : decode b_Mo_isOf 16 = .ok (.iload_n 3, 1) := by decide +kernel
theorem d_Mo_isOf_17 : decode b_Mo_isOf 17 = .ok (.iload_n 2, 1) := by decide +kernel
theorem d_Mo_isOf_18 : decode b_Mo_isOf 18 = .ok (.if_icmp .eq 16, 3) := by decide +kernel
theorem d_Mo_isOf_21 : decode b_Mo_isOf 21 = .ok (.aload_n 0, 1) := by decide +kernel
theorem d_Mo_isOf_22 : decode b_Mo_isOf 22 = .ok (.getfield 7, 3) := by decide +kernel
theorem d_Mo_isOf_25 : decode b_Mo_isOf 25 = .ok (.iload_n 3, 1) := by decide +kernel
theorem d_Mo_isOf_26 : decode b_Mo_isOf 26 = .ok (.iaload, 1) := by decide +kernel
theorem d_Mo_isOf_27 : decode b_Mo_isOf 27 = .ok (.istore_n 3, 1) := by decide +kernel
theorem d_Mo_isOf_28 : decode b_Mo_isOf 28 = .ok (.iinc 4 1, 3) := by decide +kernel
theorem d_Mo_isOf_31 : decode b_Mo_isOf 31 = .ok (.goto (-26), 3) := by decide +kernel
theorem d_Mo_isOf_34 : decode b_Mo_isOf 34 = .ok (.iload_n 3, 1) := by decide +kernel
theorem d_Mo_isOf_35 : decode b_Mo_isOf 35 = .ok (.iload_n 2, 1) := by decide +kernel
theorem d_Mo_isOf_36 : decode b_Mo_isOf 36 = .ok (.if_icmp .ne 7, 3) := by decide +kernel
theorem d_Mo_isOf_39 : decode b_Mo_isOf 39 = .ok (.iconst 1, 1) := by decide +kernel
theorem d_Mo_isOf_40 : decode b_Mo_isOf 40 = .ok (.goto 4, 3) := by decide +kernel
theorem d_Mo_isOf_43 : decode b_Mo_isOf 43 = .ok (.iconst 0, 1) := by decide +kernel
theorem d_Mo_isOf_44 : decode b_Mo_isOf 44 = .ok (.ireturn, 1) := by decide +kernel
theorem d_Mo_close_0 : decode b_Mo_close 0 = .ok (.aload_n 0, 1) := by decide +kernel
theorem d_Mo_close_1 : decode b_Mo_close 1 = .ok (.getfield 107, 3) := by decide +kernel
theorem d_Mo_close_4 : decode b_Mo_close 4 = .ok (.ifCond .eq 5, 3) := by decide +kernel
theorem d_Mo_close_7 : decode b_Mo_close 7 = .ok (.iconst (-1), 1) := by decide +kernel
theorem d_Mo_close_8 : decode b_Mo_close 8 = .ok (.ireturn, 1) := by decide +kernel
theorem d_Mo_close_9 : decode b_Mo_close 9 = .ok (.aload_n 0, 1) := by decide +kernel
theorem d_Mo_close_10 : decode b_Mo_close 10 = .ok (.getfield 129, 3) := by decide +kernel
theorem d_Mo_close_13 : decode b_Mo_close 13 = .ok (.ifCond .eq 22, 3) := by decide +kernel
theorem d_Mo_close_16 : decode b_Mo_close 16 = .ok (.aload_n 0, 1) := by decide +kernel
theorem d_Mo_close_17 : decode b_Mo_close 17 = .ok (.getfield 22, 3) := by decide +kernel
theorem d_Mo_close_20 : decode b_Mo_close 20 = .ok (.iconst 0, 1) := by decide +kernel
theorem d_Mo_close_21 : decode b_Mo_close 21 = .ok (.iaload, 1) := by decide +kernel
theorem d_Mo_close_22 : decode b_Mo_close 22 = .ok (.ifCond .ge 13, 3) := by decide +kernel
theorem d_Mo_close_25 : decode b_Mo_close 25 = .ok (.aload_n 0, 1) := by decide +kernel
theorem d_Mo_close_26 : decode b_Mo_close 26 = .ok (.getfield 25, 3) := by decide +kernel
theorem d_Mo_close_29 : decode b_Mo_close 29 = .ok (.iconst 0, 1) := by decide +kernel
theorem d_Mo_close_30 : decode b_Mo_close 30 = .ok (.iaload, 1) := by decide +kernel
theorem d_Mo_close_31 : decode b_Mo_close 31 = .ok (.iconst 1, 1) := by decide +kernel
theorem d_Mo_close_32 : decode b_Mo_close 32 = .ok (.if_icmp .eq 6, 3) := by decide +kernel
theorem d_Mo_close_35 : decode b_Mo_close 35 = .ok (.bipush 10, 2) := by decide +kernel
theorem d_Mo_close_37 : decode b_Mo_close 37 = .ok (.ireturn, 1) := by decide +kernel
theorem d_Mo_close_38 : decode b_Mo_close 38 = .ok (.iconst 0, 1) := by decide +kernel
theorem d_Mo_close_39 : decode b_Mo_close 39 = .ok (.istore_n 1, 1) := by decide +kernel
theorem d_Mo_close_40 : decode b_Mo_close 40 = .ok (.iload_n 1, 1) := by decide +kernel
theorem d_Mo_close_41 : decode b_Mo_close 41 = .ok (.aload_n 0, 1) := by decide +kernel
theorem d_Mo_close_42 : decode b_Mo_close 42 = .ok (.getfield 129, 3) := by decide +kernel
theorem d_Mo_close_45 : decode b_Mo_close 45 = .ok (.if_icmp .ge 19, 3) := by decide +kernel
theorem d_Mo_close_48 : decode b_Mo_close 48 = .ok (.aload_n 0, 1) := by decide +kernel
theorem d_Mo_close_49 : decode b_Mo_close 49 = .ok (.iload_n 1, 1) := by decide +kernel
theorem d_Mo_close_50 : decode b_Mo_close 50 = .ok (.invokevirtual 186, 3) := by decide +kernel
theorem d_Mo_close_53 : decode b_Mo_close 53 = .ok (.ifCond .ne 5, 3) := by decide +kernel
theorem d_Mo_close_56 : decode b_Mo_close 56 = .ok (.iload_n 1, 1) := by decide +kernel
theorem d_Mo_close_57 : decode b_Mo_close 57 = .ok (.ireturn, 1) := by decide +kernel
theorem d_Mo_close_58 : decode b_Mo_close 58 = .ok (.iinc 1 1, 3) := by decide +kernel
theorem d_Mo_close_61 : decode b_Mo_close 61 = .ok (.goto (-21), 3) := by decide +kernel
theorem d_Mo_close_64 : decode b_Mo_close 64 = .ok (.aload_n 0, 1) := by decide +kernel
theorem d_Mo_close_65 : decode b_Mo_close 65 = .ok (.iconst 1, 1) := by decide +kernel
theorem d_Mo_close_66 : decode b_Mo_close 66 = .ok (.putfield 107, 3) := by decide +kernel
theorem d_Mo_close_69 : decode b_Mo_close 69 = .ok (.aload_n 0, 1) := by decide +kernel
theorem d_Mo_close_70 : decode b_Mo_close 70 = .ok (.invokevirtual 190, 3) := by decide +kernel
theorem d_Mo_close_73 : decode b_Mo_close 73 = .ok (.iconst (-1), 1) := by decide +kernel
theorem d_Mo_close_74 : decode b_Mo_close 74 = .ok (.ireturn, 1) := by decide +kernel
theorem d_Mo_sound_0 : decode b_Mo_sound 0 = .ok (.iconst 0, 1) := by decide +kernel
theorem d_Mo_sound_1 : decode b_Mo_sound 1 = .ok (.istore_n 2, 1) := by decide +kernel
theorem d_Mo_sound_2 : decode b_Mo_sound 2 = .ok (.iload_n 2, 1) := by decide +kernel
theorem d_Mo_sound_3 : decode b_Mo_sound 3 = .ok (.bipush 20, 2) := by decide +kernel
theorem d_Mo_sound_5 : decode b_Mo_sound 5 = .ok (.if_icmp .ge 21, 3) := by decide +kernel
theorem d_Mo_sound_8 : decode b_Mo_sound 8 = .ok (.aload_n 0, 1) := by decide +kernel
theorem d_Mo_sound_9 : decode b_Mo_sound 9 = .ok (.getfield 49, 3) := by decide +kernel
theorem d_Mo_sound_12 : decode b_Mo_sound 12 = .ok (.bipush 20, 2) := by decide +kernel
theorem d_Mo_sound_14 : decode b_Mo_sound 14 = .ok (.iload_n 1, 1) := by decide +kernel
theorem d_Mo_sound_15 : decode b_Mo_sound 15 = .ok (.imul, 1) := by decide +kernel
theorem d_Mo_sound_16 : decode b_Mo_sound 16 = .ok (.iload_n 2, 1) := by decide +kernel
theorem d_Mo_sound_17 : decode b_Mo_sound 17 = .ok (.iadd, 1) := by decide +kernel
theorem d_Mo_sound_18 : decode b_Mo_sound 18 = .ok (.iconst 0, 1) := by decide +kernel
theorem d_Mo_sound_19 : decode b_Mo_sound 19 = .ok (.bastore, 1) := by decide +kernel
theorem d_Mo_sound_20 : decode b_Mo_sound 20 = .ok (.iinc 2 1, 3) := by decide +kernel
theorem d_Mo_sound_23 : decode b_Mo_sound 23 = .ok (.goto (-21), 3) := by decide +kernel
theorem d_Mo_sound_26 : decode b_Mo_sound 26 = .ok (.aload_n 0, 1) := by decide +kernel
theorem d_Mo_sound_27 : decode b_Mo_sound 27 = .ok (.iconst 0, 1) := by decide +kernel
theorem d_Mo_sound_28 : decode b_Mo_sound 28 = .ok (.putfield 148, 3) := by decide +kernel
theorem d_Mo_sound_31 : decode b_Mo_sound 31 = .ok (.aload_n 0, 1) := by decide +kernel
theorem d_Mo_sound_32 : decode b_Mo_sound 32 = .ok (.iconst 0, 1) := by decide +kernel
theorem d_Mo_sound_33 : decode b_Mo_sound 33 = .ok (.putfield 151, 3) := by decide +kernel
theorem d_Mo_sound_36 : decode b_Mo_sound 36 = .ok (.iconst 0, 1) := by decide +kernel
theorem d_Mo_sound_37 : decode b_Mo_sound 37 = .ok (.istore_n 2, 1) := by decide +kernel
theorem d_Mo_sound_38 : decode b_Mo_sound 38 = .ok (.iload_n 2, 1) := by decide +kernel
theorem d_Mo_sound_39 : decode b_Mo_sound 39 = .ok (.iconst 4, 1) := by decide +kernel
theorem d_Mo_sound_40 : decode b_Mo_sound 40 = .ok (.if_icmp .ge 32, 3) := by decide +kernel
theorem d_Mo_sound_43 : decode b_Mo_sound 43 = .ok (.aload_n 0, 1) := by decide +kernel
theorem d_Mo_sound_44 : decode b_Mo_sound 44 = .ok (.getfield 59, 3) := by decide +kernel
theorem d_Mo_sound_47 : decode b_Mo_sound 47 = .ok (.iload_n 2, 1) := by decide +kernel
theorem d_Mo_sound_48 : decode b_Mo_sound 48 = .ok (.iload_n 2, 1) := by decide +kernel
theorem d_Mo_sound_49 : decode b_Mo_sound 49 = .ok (.aload_n 0, 1) := by decide +kernel
theorem d_Mo_sound_50 : decode b_Mo_sound 50 = .ok (.getfield 25, 3) := by decide +kernel
theorem d_Mo_sound_53 : decode b_Mo_sound 53 = .ok (.iload_n 1, 1) := by decide +kernel
theorem d_Mo_sound_54 : decode b_Mo_sound 54 = .ok (.iaload, 1) := by decide +kernel
theorem d_Mo_sound_55 : decode b_Mo_sound 55 = .ok (.if_icmp .ge 8, 3) := by decide +kernel
theorem d_Mo_sound_58 : decode b_Mo_sound 58 = .ok (.bipush 9, 2) := by decide +kernel
theorem d_Mo_sound_60 : decode b_Mo_sound 60 = .ok (.goto 5, 3) := by decide +kernel
theorem d_Mo_sound_63 : decode b_Mo_sound 63 = .ok (.bipush 8, 2) := by decide +kernel
theorem d_Mo_sound_65 : decode b_Mo_sound 65 = .ok (.iastore, 1) := by decide +kernel
theorem d_Mo_sound_66 : decode b_Mo_sound 66 = .ok (.iinc 2 1, 3) := by decide +kernel
theorem d_Mo_sound_69 : decode b_Mo_sound 69 = .ok (.goto (-31), 3) := by decide +kernel
theorem d_Mo_sound_72 : decode b_Mo_sound 72 = .ok (.aload_n 0, 1) := by decide +kernel
theorem d_Mo_sound_73 : decode b_Mo_sound 73 = .ok (.getfield 22, 3) := by decide +kernel
theorem d_Mo_sound_76 : decode b_Mo_sound 76 = .ok (.iload_n 1, 1) := by decide +kernel
theorem d_Mo_sound_77 : decode b_Mo_sound 77 = .ok (.iaload, 1) := by decide +kernel
theorem d_Mo_sound_78 : decode b_Mo_sound 78 = .ok (.ifCond .lt 15, 3) := by decide +kernel
theorem d_Mo_sound_81 : decode b_Mo_sound 81 = .ok (.aload_n 0, 1) := by decide +kernel
theorem d_Mo_sound_82 : decode b_Mo_sound 82 = .ok (.getfield 59, 3) := by decide +kernel
theorem d_Mo_sound_85 : decode b_Mo_sound 85 = .ok (.iconst 0, 1) := by decide +kernel
theorem d_Mo_sound_86 : decode b_Mo_sound 86 = .ok (.aload_n 0, 1) := by decide +kernel
theorem d_Mo_sound_87 : decode b_Mo_sound 87 = .ok (.getfield 19, 3) := by decide +kernel
theorem d_Mo_sound_90 : decode b_Mo_sound 90 = .ok (.iload_n 1, 1) := by decide +kernel
theorem d_Mo_sound_91 : decode b_Mo_sound 91 = .ok (.iaload, 1) := by decide +kernel
theorem d_Mo_sound_92 : decode b_Mo_sound 92 = .ok (.iastore, 1) := by decide +kernel
theorem d_Mo_sound_93 : decode b_Mo_sound 93 = .ok (.aload_n 0, 1) := by decide +kernel
theorem d_Mo_sound_94 : decode b_Mo_sound 94 = .ok (.iconst 1, 1) := by decide +kernel
theorem d_Mo_sound_95 : decode b_Mo_sound 95 = .ok (.putfield 157, 3) := by decide +kernel
theorem d_Mo_sound_98 : decode b_Mo_sound 98 = .ok (.aload_n 0, 1) := by decide +kernel
theorem d_Mo_sound_99 : decode b_Mo_sound 99 = .ok (.iload_n 1, 1) := by decide +kernel
theorem d_Mo_sound_100 : decode b_Mo_sound 100 = .ok (.iconst 0, 1) := by decide +kernel
theorem d_Mo_sound_101 : decode b_Mo_sound 101 = .ok (.invokevirtual 168, 3) := by decide +kernel
theorem d_Mo_sound_104 : decode b_Mo_sound 104 = .ok (.iconst 0, 1) := by decide +kernel
theorem d_Mo_sound_105 : decode b_Mo_sound 105 = .ok (.istore_n 2, 1) := by decide +kernel
theorem d_Mo_sound_106 : decode b_Mo_sound 106 = .ok (.iload_n 2, 1) := by decide +kernel
theorem d_Mo_sound_107 : decode b_Mo_sound 107 = .ok (.sipush 2000, 3) := by decide +kernel
theorem d_Mo_sound_110 : decode b_Mo_sound 110 = .ok (.if_icmp .ge 73, 3) := by decide +kernel
theorem d_Mo_sound_113 : decode b_Mo_sound 113 = .ok (.aload_n 0, 1) := by decide +kernel
theorem d_Mo_sound_114 : decode b_Mo_sound 114 = .ok (.getfield 157, 3) := by decide +kernel
theorem d_Mo_sound_117 : decode b_Mo_sound 117 = .ok (.ifCond .eq 66, 3) := by decide +kernel
theorem d_Mo_sound_120 : decode b_Mo_sound 120 = .ok (.aload_n 0, 1) := by decide +kernel
theorem d_Mo_sound_121 : decode b_Mo_sound 121 = .ok (.getfield 148, 3) := by decide +kernel
theorem d_Mo_sound_124 : decode b_Mo_sound 124 = .ok (.ifCond .ne 59, 3) := by decide +kernel
theorem d_Mo_sound_127 : decode b_Mo_sound 127 = .ok (.aload_n 0, 1) := by decide +kernel
theorem d_Mo_sound_128 : decode b_Mo_sound 128 = .ok (.iconst 0, 1) := by decide +kernel
theorem d_Mo_sound_129 : decode b_Mo_sound 129 = .ok (.putfield 157, 3) := by decide +kernel
theorem d_Mo_sound_132 : decode b_Mo_sound 132 = .ok (.iconst 0, 1) := by decide +kernel
theorem d_Mo_sound_133 : decode b_Mo_sound 133 = .ok (.istore_n 3, 1) := by decide +kernel
theorem d_Mo_sound_134 : decode b_Mo_sound 134 = .ok (.iload_n 3, 1) := by decide +kernel
theorem d_Mo_sound_135 : decode b_Mo_sound 135 = .ok (.aload_n 0, 1) := by decide +kernel
theorem d_Mo_sound_136 : decode b_Mo_sound 136 = .ok (.getfield 28, 3) := by decide +kernel
theorem d_Mo_sound_139 : decode b_Mo_sound 139 = .ok (.iload_n 1, 1) := by decide +kernel
theorem d_Mo_sound_140 : decode b_Mo_sound 140 = .ok (.iaload, 1) := by decide +kernel
theorem d_Mo_sound_141 : decode b_Mo_sound 141 = .ok (.if_icmp .ge 36, 3) := by decide +kernel
theorem d_Mo_sound_144 : decode b_Mo_sound 144 = .ok (.aload_n 0, 1) := by decide +kernel
theorem d_Mo_sound_145 : decode b_Mo_sound 145 = .ok (.getfield 148, 3) := by decide +kernel
theorem d_Mo_sound_148 : decode b_Mo_sound 148 = .ok (.ifCond .ne 29, 3) := by decide +kernel
theorem d_Mo_sound_151 : decode b_Mo_sound 151 = .ok (.aload_n 0, 1) := by decide +kernel
theorem d_Mo_sound_152 : decode b_Mo_sound 152 = .ok (.getfield 49, 3) := by decide +kernel
theorem d_Mo_sound_155 : decode b_Mo_sound 155 = .ok (.bipush 20, 2) := by decide +kernel
theorem d_Mo_sound_157 : decode b_Mo_sound 157 = .ok (.iload_n 1, 1) := by decide +kernel
theorem d_Mo_sound_158 : decode b_Mo_sound 158 = .ok (.imul, 1) := by decide +kernel
theorem d_Mo_sound_159 : decode b_Mo_sound 159 = .ok (.iload_n 3, 1) := by decide +kernel
theorem d_Mo_sound_160 : decode b_Mo_sound 160 = .ok (.iadd, 1) := by decide +kernel
theorem d_Mo_sound_161 : decode b_Mo_sound 161 = .ok (.baload, 1) := by decide +kernel
theorem d_Mo_sound_162 : decode b_Mo_sound 162 = .ok (.ifCond .eq 9, 3) := by decide +kernel
theorem d_Mo_sound_165 : decode b_Mo_sound 165 = .ok (.aload_n 0, 1) := by decide +kernel
theorem d_Mo_sound_166 : decode b_Mo_sound 166 = .ok (.iload_n 1, 1) := by decide +kernel
theorem d_Mo_sound_167 : decode b_Mo_sound 167 = .ok (.iload_n 3, 1) := by decide +kernel
theorem d_Mo_sound_168 : decode b_Mo_sound 168 = .ok (.invokevirtual 183, 3) := by decide +kernel
theorem d_Mo_sound_171 : decode b_Mo_sound 171 = .ok (.iinc 3 1, 3) := by decide +kernel
theorem d_Mo_sound_174 : decode b_Mo_sound 174 = .ok (.goto (-40), 3) := by decide +kernel
theorem d_Mo_sound_177 : decode b_Mo_sound 177 = .ok (.iinc 2 1, 3) := by decide +kernel
theorem d_Mo_sound_180 : decode b_Mo_sound 180 = .ok (.goto (-74), 3) := by decide +kernel
theorem d_Mo_sound_183 : decode b_Mo_sound 183 = .ok (.aload_n 0, 1) := by decide +kernel
theorem d_Mo_sound_184 : decode b_Mo_sound 184 = .ok (.getfield 148, 3) := by decide +kernel
theorem d_Mo_sound_187 : decode b_Mo_sound 187 = .ok (.ifCond .ne 7, 3) := by decide +kernel
theorem d_Mo_sound_190 : decode b_Mo_sound 190 = .ok (.iconst 1, 1) := by decide +kernel
theorem d_Mo_sound_191 : decode b_Mo_sound 191 = .ok (.goto 4, 3) := by decide +kernel
theorem d_Mo_sound_194 : decode b_Mo_sound 194 = .ok (.iconst 0, 1) := by decide +kernel
theorem d_Mo_sound_195 : decode b_Mo_sound 195 = .ok (.ireturn, 1) := by decide +kernel
theorem d_Mo_arrive_0 : decode b_Mo_arrive 0 = .ok (.iload_n 2, 1) := by decide +kernel
theorem d_Mo_arrive_1 : decode b_Mo_arrive 1 = .ok (.aload_n 0, 1) := by decide +kernel
theorem d_Mo_arrive_2 : decode b_Mo_arrive 2 = .ok (.getfield 28, 3) := by decide +kernel
theorem d_Mo_arrive_5 : decode b_Mo_arrive 5 = .ok (.iload_n 1, 1) := by decide +kernel
theorem d_Mo_arrive_6 : decode b_Mo_arrive 6 = .ok (.iaload, 1) := by decide +kernel
theorem d_Mo_arrive_7 : decode b_Mo_arrive 7 = .ok (.if_icmp .lt 9, 3) := by decide +kernel
theorem d_Mo_arrive_10 : decode b_Mo_arrive 10 = .ok (.aload_n 0, 1) := by decide +kernel
theorem d_Mo_arrive_11 : decode b_Mo_arrive 11 = .ok (.iconst 1, 1) := by decide +kernel
theorem d_Mo_arrive_12 : decode b_Mo_arrive 12 = .ok (.putfield 148, 3) := by decide +kernel
theorem d_Mo_arrive_15 : decode b_Mo_arrive 15 = .ok (.return_, 1) := by decide +kernel
theorem d_Mo_arrive_16 : decode b_Mo_arrive 16 = .ok (.bipush 20, 2) := by decide +kernel
theorem d_Mo_arrive_18 : decode b_Mo_arrive 18 = .ok (.iload_n 1, 1) := by decide +kernel
theorem d_Mo_arrive_19 : decode b_Mo_arrive 19 = .ok (.imul, 1) := by decide +kernel
theorem d_Mo_arrive_20 : decode b_Mo_arrive 20 = .ok (.iload_n 2, 1) := by decide +kernel
theorem d_Mo_arrive_21 : decode b_Mo_arrive 21 = .ok (.iadd, 1) := by decide +kernel
theorem d_Mo_arrive_22 : decode b_Mo_arrive 22 = .ok (.istore_n 3, 1) := by decide +kernel
theorem d_Mo_arrive_23 : decode b_Mo_arrive 23 = .ok (.aload_n 0, 1) := by decide +kernel
theorem d_Mo_arrive_24 : decode b_Mo_arrive 24 = .ok (.getfield 49, 3) := by decide +kernel
theorem d_Mo_arrive_27 : decode b_Mo_arrive 27 = .ok (.iload_n 3, 1) := by decide +kernel
theorem d_Mo_arrive_28 : decode b_Mo_arrive 28 = .ok (.baload, 1) := by decide +kernel
theorem d_Mo_arrive_29 : decode b_Mo_arrive 29 = .ok (.ifCond .eq 22, 3) := by decide +kernel
theorem d_Mo_arrive_32 : decode b_Mo_arrive 32 = .ok (.aload_n 0, 1) := by decide +kernel
theorem d_Mo_arrive_33 : decode b_Mo_arrive 33 = .ok (.getfield 53, 3) := by decide +kernel
theorem d_Mo_arrive_36 : decode b_Mo_arrive 36 = .ok (.iload_n 3, 1) := by decide +kernel
theorem d_Mo_arrive_37 : decode b_Mo_arrive 37 = .ok (.iaload, 1) := by decide +kernel
theorem d_Mo_arrive_38 : decode b_Mo_arrive 38 = .ok (.aload_n 0, 1) := by decide +kernel
theorem d_Mo_arrive_39 : decode b_Mo_arrive 39 = .ok (.getfield 151, 3) := by decide +kernel
theorem d_Mo_arrive_42 : decode b_Mo_arrive 42 = .ok (.if_icmp .eq 9, 3) := by decide +kernel
theorem d_Mo_arrive_45 : decode b_Mo_arrive 45 = .ok (.aload_n 0, 1) := by decide +kernel
theorem d_Mo_arrive_46 : decode b_Mo_arrive 46 = .ok (.iconst 1, 1) := by decide +kernel
theorem d_Mo_arrive_47 : decode b_Mo_arrive 47 = .ok (.putfield 148, 3) := by decide +kernel
theorem d_Mo_arrive_50 : decode b_Mo_arrive 50 = .ok (.return_, 1) := by decide +kernel
theorem d_Mo_arrive_51 : decode b_Mo_arrive 51 = .ok (.iconst 0, 1) := by decide +kernel
theorem d_Mo_arrive_52 : decode b_Mo_arrive 52 = .ok (.istore 4, 2) := by decide +kernel
theorem d_Mo_arrive_54 : decode b_Mo_arrive 54 = .ok (.iload 4, 2) := by decide +kernel
theorem d_Mo_arrive_56 : decode b_Mo_arrive 56 = .ok (.iconst 4, 1) := by decide +kernel
theorem d_Mo_arrive_57 : decode b_Mo_arrive 57 = .ok (.aload_n 0, 1) := by decide +kernel
theorem d_Mo_arrive_58 : decode b_Mo_arrive 58 = .ok (.getfield 151, 3) := by decide +kernel
theorem d_Mo_arrive_61 : decode b_Mo_arrive 61 = .ok (.iadd, 1) := by decide +kernel
theorem d_Mo_arrive_62 : decode b_Mo_arrive 62 = .ok (.if_icmp .ge 109, 3) := by decide +kernel
theorem d_Mo_arrive_65 : decode b_Mo_arrive 65 = .ok (.aload_n 0, 1) := by decide +kernel
theorem d_Mo_arrive_66 : decode b_Mo_arrive 66 = .ok (.getfield 49, 3) := by decide +kernel
theorem d_Mo_arrive_69 : decode b_Mo_arrive 69 = .ok (.iload_n 3, 1) := by decide +kernel
theorem d_Mo_arrive_70 : decode b_Mo_arrive 70 = .ok (.baload, 1) := by decide +kernel
theorem d_Mo_arrive_71 : decode b_Mo_arrive 71 = .ok (.ifCond .eq 29, 3) := by decide +kernel
theorem d_Mo_arrive_74 : decode b_Mo_arrive 74 = .ok (.aload_n 0, 1) := by decide +kernel
theorem d_Mo_arrive_75 : decode b_Mo_arrive 75 = .ok (.aload_n 0, 1) := by decide +kernel
theorem d_Mo_arrive_76 : decode b_Mo_arrive 76 = .ok (.getfield 56, 3) := by decide +kernel
theorem d_Mo_arrive_79 : decode b_Mo_arrive 79 = .ok (.bipush 10, 2) := by decide +kernel
theorem d_Mo_arrive_81 : decode b_Mo_arrive 81 = .ok (.iload_n 3, 1) := by decide +kernel
theorem d_Mo_arrive_82 : decode b_Mo_arrive 82 = .ok (.imul, 1) := by decide +kernel
theorem d_Mo_arrive_83 : decode b_Mo_arrive 83 = .ok (.iload 4, 2) := by decide +kernel
theorem d_Mo_arrive_85 : decode b_Mo_arrive 85 = .ok (.iadd, 1) := by decide +kernel
theorem d_Mo_arrive_86 : decode b_Mo_arrive 86 = .ok (.iaload, 1) := by decide +kernel
theorem d_Mo_arrive_87 : decode b_Mo_arrive 87 = .ok (.aload_n 0, 1) := by decide +kernel
theorem d_Mo_arrive_88 : decode b_Mo_arrive 88 = .ok (.getfield 59, 3) := by decide +kernel
theorem d_Mo_arrive_91 : decode b_Mo_arrive 91 = .ok (.iload 4, 2) := by decide +kernel
theorem d_Mo_arrive_93 : decode b_Mo_arrive 93 = .ok (.iaload, 1) := by decide +kernel
theorem d_Mo_arrive_94 : decode b_Mo_arrive 94 = .ok (.invokevirtual 154, 3) := by decide +kernel
theorem d_Mo_arrive_97 : decode b_Mo_arrive 97 = .ok (.goto 10, 3) := by decide +kernel
theorem d_Mo_arrive_100 : decode b_Mo_arrive 100 = .ok (.aload_n 0, 1) := by decide +kernel
theorem d_Mo_arrive_101 : decode b_Mo_arrive 101 = .ok (.getfield 59, 3) := by decide +kernel
theorem d_Mo_arrive_104 : decode b_Mo_arrive 104 = .ok (.iload 4, 2) := by decide +kernel
theorem d_Mo_arrive_106 : decode b_Mo_arrive 106 = .ok (.iaload, 1) := by decide +kernel
theorem d_Mo_arrive_107 : decode b_Mo_arrive 107 = .ok (.istore 5, 2) := by decide +kernel
theorem d_Mo_arrive_109 : decode b_Mo_arrive 109 = .ok (.aload_n 0, 1) := by decide +kernel
theorem d_Mo_arrive_110 : decode b_Mo_arrive 110 = .ok (.aload_n 0, 1) := by decide +kernel
theorem d_Mo_arrive_111 : decode b_Mo_arrive 111 = .ok (.getfield 157, 3) := by decide +kernel
theorem d_Mo_arrive_114 : decode b_Mo_arrive 114 = .ok (.ifCond .ne 29, 3) := by decide +kernel
theorem d_Mo_arrive_117 : decode b_Mo_arrive 117 = .ok (.aload_n 0, 1) := by decide +kernel
theorem d_Mo_arrive_118 : decode b_Mo_arrive 118 = .ok (.getfield 49, 3) := by decide +kernel
theorem d_Mo_arrive_121 : decode b_Mo_arrive 121 = .ok (.iload_n 3, 1) := by decide +kernel
theorem d_Mo_arrive_122 : decode b_Mo_arrive 122 = .ok (.baload, 1) := by decide +kernel
theorem d_Mo_arrive_123 : decode b_Mo_arrive 123 = .ok (.ifCond .eq 20, 3) := by decide +kernel
theorem d_Mo_arrive_126 : decode b_Mo_arrive 126 = .ok (.iload 5, 2) := by decide +kernel
theorem d_Mo_arrive_128 : decode b_Mo_arrive 128 = .ok (.aload_n 0, 1) := by decide +kernel
theorem d_Mo_arrive_129 : decode b_Mo_arrive 129 = .ok (.getfield 56, 3) := by decide +kernel
theorem d_Mo_arrive_132 : decode b_Mo_arrive 132 = .ok (.bipush 10, 2) := by decide +kernel
theorem d_Mo_arrive_134 : decode b_Mo_arrive 134 = .ok (.iload_n 3, 1) := by decide +kernel
theorem d_Mo_arrive_135 : decode b_Mo_arrive 135 = .ok (.imul, 1) := by decide +kernel
theorem d_Mo_arrive_136 : decode b_Mo_arrive 136 = .ok (.iload 4, 2) := by decide +kernel
theorem d_Mo_arrive_138 : decode b_Mo_arrive 138 = .ok (.iadd, 1) := by decide +kernel
theorem d_Mo_arrive_139 : decode b_Mo_arrive 139 = .ok (.iaload, 1) := by decide +kernel
theorem d_Mo_arrive_140 : decode b_Mo_arrive 140 = .ok (.if_icmp .eq 7, 3) := by decide +kernel
theorem d_Mo_arrive_143 : decode b_Mo_arrive 143 = .ok (.iconst 1, 1) := by decide +kernel
theorem d_Mo_arrive_144 : decode b_Mo_arrive 144 = .ok (.goto 4, 3) := by decide +kernel
theorem d_Mo_arrive_147 : decode b_Mo_arrive 147 = .ok (.iconst 0, 1) := by decide +kernel
theorem d_Mo_arrive_148 : decode b_Mo_arrive 148 = .ok (.putfield 157, 3) := by decide +kernel
theorem d_Mo_arrive_151 : decode b_Mo_arrive 151 = .ok (.aload_n 0, 1) := by decide +kernel
theorem d_Mo_arrive_152 : decode b_Mo_arrive 152 = .ok (.getfield 56, 3) := by decide +kernel
theorem d_Mo_arrive_155 : decode b_Mo_arrive 155 = .ok (.bipush 10, 2) := by decide +kernel
theorem d_Mo_arrive_157 : decode b_Mo_arrive 157 = .ok (.iload_n 3, 1) := by decide +kernel
theorem d_Mo_arrive_158 : decode b_Mo_arrive 158 = .ok (.imul, 1) := by decide +kernel
theorem d_Mo_arrive_159 : decode b_Mo_arrive 159 = .ok (.iload 4, 2) := by decide +kernel
theorem d_Mo_arrive_161 : decode b_Mo_arrive 161 = .ok (.iadd, 1) := by decide +kernel
theorem d_Mo_arrive_162 : decode b_Mo_arrive 162 = .ok (.iload 5, 2) := by decide +kernel
theorem d_Mo_arrive_164 : decode b_Mo_arrive 164 = .ok (.iastore, 1) := by decide +kernel
theorem d_Mo_arrive_165 : decode b_Mo_arrive 165 = .ok (.iinc 4 1, 3) := by decide +kernel
theorem d_Mo_arrive_168 : decode b_Mo_arrive 168 = .ok (.goto (-114), 3) := by decide +kernel
theorem d_Mo_arrive_171 : decode b_Mo_arrive 171 = .ok (.aload_n 0, 1) := by decide +kernel
theorem d_Mo_arrive_172 : decode b_Mo_arrive 172 = .ok (.getfield 49, 3) := by decide +kernel
theorem d_Mo_arrive_175 : decode b_Mo_arrive 175 = .ok (.iload_n 3, 1) := by decide +kernel
theorem d_Mo_arrive_176 : decode b_Mo_arrive 176 = .ok (.iconst 1, 1) := by decide +kernel
theorem d_Mo_arrive_177 : decode b_Mo_arrive 177 = .ok (.bastore, 1) := by decide +kernel
theorem d_Mo_arrive_178 : decode b_Mo_arrive 178 = .ok (.aload_n 0, 1) := by decide +kernel
theorem d_Mo_arrive_179 : decode b_Mo_arrive 179 = .ok (.getfield 53, 3) := by decide +kernel
theorem d_Mo_arrive_182 : decode b_Mo_arrive 182 = .ok (.iload_n 3, 1) := by decide +kernel
theorem d_Mo_arrive_183 : decode b_Mo_arrive 183 = .ok (.aload_n 0, 1) := by decide +kernel
theorem d_Mo_arrive_184 : decode b_Mo_arrive 184 = .ok (.getfield 151, 3) := by decide +kernel
theorem d_Mo_arrive_187 : decode b_Mo_arrive 187 = .ok (.iastore, 1) := by decide +kernel
theorem d_Mo_arrive_188 : decode b_Mo_arrive 188 = .ok (.return_, 1) := by decide +kernel
theorem d_Mo_join_0 : decode b_Mo_join 0 = .ok (.iload_n 1, 1) := by decide +kernel
theorem d_Mo_join_1 : decode b_Mo_join 1 = .ok (.iload_n 2, 1) := by decide +kernel
theorem d_Mo_join_2 : decode b_Mo_join 2 = .ok (.if_icmp .ne 5, 3) := by decide +kernel
theorem d_Mo_join_5 : decode b_Mo_join 5 = .ok (.iload_n 1, 1) := by decide +kernel
theorem d_Mo_join_6 : decode b_Mo_join 6 = .ok (.ireturn, 1) := by decide +kernel
theorem d_Mo_join_7 : decode b_Mo_join 7 = .ok (.iload_n 1, 1) := by decide +kernel
theorem d_Mo_join_8 : decode b_Mo_join 8 = .ok (.bipush 8, 2) := by decide +kernel
theorem d_Mo_join_10 : decode b_Mo_join 10 = .ok (.if_icmp .ge 9, 3) := by decide +kernel
theorem d_Mo_join_13 : decode b_Mo_join 13 = .ok (.iload_n 2, 1) := by decide +kernel
theorem d_Mo_join_14 : decode b_Mo_join 14 = .ok (.bipush 8, 2) := by decide +kernel
theorem d_Mo_join_16 : decode b_Mo_join 16 = .ok (.if_icmp .lt 6, 3) := by decide +kernel
theorem d_Mo_join_19 : decode b_Mo_join 19 = .ok (.bipush 8, 2) := by decide +kernel
theorem d_Mo_join_21 : decode b_Mo_join 21 = .ok (.ireturn, 1) := by decide +kernel
theorem d_Mo_join_22 : decode b_Mo_join 22 = .ok (.iload_n 1, 1) := by decide +kernel
theorem d_Mo_join_23 : decode b_Mo_join 23 = .ok (.istore_n 3, 1) := by decide +kernel
theorem d_Mo_join_24 : decode b_Mo_join 24 = .ok (.iconst 0, 1) := by decide +kernel
theorem d_Mo_join_25 : decode b_Mo_join 25 = .ok (.istore 4, 2) := by decide +kernel
theorem d_Mo_join_27 : decode b_Mo_join 27 = .ok (.iload 4, 2) := by decide +kernel
theorem d_Mo_join_29 : decode b_Mo_join 29 = .ok (.bipush 6, 2) := by decide +kernel
theorem d_Mo_join_31 : decode b_Mo_join 31 = .ok (.if_icmp .ge 29, 3) := by decide +kernel
theorem d_Mo_join_34 : decode b_Mo_join 34 = .ok (.iload_n 3, 1) := by decide +kernel
theorem d_Mo_join_35 : decode b_Mo_join 35 = .ok (.ifCond .lt 25, 3) := by decide +kernel
theorem d_Mo_join_38 : decode b_Mo_join 38 = .ok (.aload_n 0, 1) := by decide +kernel
theorem d_Mo_join_39 : decode b_Mo_join 39 = .ok (.iload_n 2, 1) := by decide +kernel
theorem d_Mo_join_40 : decode b_Mo_join 40 = .ok (.iload_n 3, 1) := by decide +kernel
theorem d_Mo_join_41 : decode b_Mo_join 41 = .ok (.invokevirtual 142, 3) := by decide +kernel
theorem d_Mo_join_44 : decode b_Mo_join 44 = .ok (.ifCond .ne 16, 3) := by decide +kernel
theorem d_Mo_join_47 : decode b_Mo_join 47 = .ok (.aload_n 0, 1) := by decide +kernel
theorem d_Mo_join_48 : decode b_Mo_join 48 = .ok (.getfield 7, 3) := by decide +kernel
theorem d_Mo_join_51 : decode b_Mo_join 51 = .ok (.iload_n 3, 1) := by decide +kernel
theorem d_Mo_join_52 : decode b_Mo_join 52 = .ok (.iaload, 1) := by decide +kernel
theorem d_Mo_join_53 : decode b_Mo_join 53 = .ok (.istore_n 3, 1) := by decide +kernel
theorem d_Mo_join_54 : decode b_Mo_join 54 = .ok (.iinc 4 1, 3) := by decide +kernel
theorem d_Mo_join_57 : decode b_Mo_join 57 = .ok (.goto (-30), 3) := by decide +kernel
theorem d_Mo_join_60 : decode b_Mo_join 60 = .ok (.iload_n 3, 1) := by decide +kernel
theorem d_Mo_join_61 : decode b_Mo_join 61 = .ok (.ifCond .ge 8, 3) := by decide +kernel
theorem d_Mo_join_64 : decode b_Mo_join 64 = .ok (.bipush 8, 2) := by decide +kernel
theorem d_Mo_join_66 : decode b_Mo_join 66 = .ok (.goto 4, 3) := by decide +kernel
theorem d_Mo_join_69 : decode b_Mo_join 69 = .ok (.iload_n 3, 1) := by decide +kernel
theorem d_Mo_join_70 : decode b_Mo_join 70 = .ok (.ireturn, 1) := by decide +kernel
theorem d_Mo_flow_0 : decode b_Mo_flow 0 = .ok (.bipush 20, 2) := by decide +kernel
theorem d_Mo_flow_2 : decode b_Mo_flow 2 = .ok (.iload_n 1, 1) := by decide +kernel
theorem d_Mo_flow_3 : decode b_Mo_flow 3 = .ok (.imul, 1) := by decide +kernel
theorem d_Mo_flow_4 : decode b_Mo_flow 4 = .ok (.iload_n 2, 1) := by decide +kernel
theorem d_Mo_flow_5 : decode b_Mo_flow 5 = .ok (.iadd, 1) := by decide +kernel
theorem d_Mo_flow_6 : decode b_Mo_flow 6 = .ok (.istore_n 3, 1) := by decide +kernel
theorem d_Mo_flow_7 : decode b_Mo_flow 7 = .ok (.aload_n 0, 1) := by decide +kernel
theorem d_Mo_flow_8 : decode b_Mo_flow 8 = .ok (.iload_n 3, 1) := by decide +kernel
theorem d_Mo_flow_9 : decode b_Mo_flow 9 = .ok (.invokevirtual 160, 3) := by decide +kernel
theorem d_Mo_flow_12 : decode b_Mo_flow 12 = .ok (.aload_n 0, 1) := by decide +kernel
theorem d_Mo_flow_13 : decode b_Mo_flow 13 = .ok (.getfield 31, 3) := by decide +kernel
theorem d_Mo_flow_16 : decode b_Mo_flow 16 = .ok (.iload_n 3, 1) := by decide +kernel
theorem d_Mo_flow_17 : decode b_Mo_flow 17 = .ok (.iaload, 1) := by decide +kernel
theorem d_Mo_flow_18 : decode b_Mo_flow 18 = .ok (.istore 4, 2) := by decide +kernel
theorem d_Mo_flow_20 : decode b_Mo_flow 20 = .ok (.aload_n 0, 1) := by decide +kernel
theorem d_Mo_flow_21 : decode b_Mo_flow 21 = .ok (.getfield 34, 3) := by decide +kernel
theorem d_Mo_flow_24 : decode b_Mo_flow 24 = .ok (.iload_n 3, 1) := by decide +kernel
theorem d_Mo_flow_25 : decode b_Mo_flow 25 = .ok (.iaload, 1) := by decide +kernel
theorem d_Mo_flow_26 : decode b_Mo_flow 26 = .ok (.istore 5, 2) := by decide +kernel
theorem d_Mo_flow_28 : decode b_Mo_flow 28 = .ok (.aload_n 0, 1) := by decide +kernel
theorem d_Mo_flow_29 : decode b_Mo_flow 29 = .ok (.iload 4, 2) := by decide +kernel
theorem d_Mo_flow_31 : decode b_Mo_flow 31 = .ok (.iload 5, 2) := by decide +kernel
theorem d_Mo_flow_33 : decode b_Mo_flow 33 = .ok (.invokevirtual 164, 3) := by decide +kernel
theorem d_Mo_flow_36 : decode b_Mo_flow 36 = .ok (.aload_n 0, 1) := by decide +kernel
theorem d_Mo_flow_37 : decode b_Mo_flow 37 = .ok (.getfield 148, 3) := by decide +kernel
theorem d_Mo_flow_40 : decode b_Mo_flow 40 = .ok (.ifCond .eq 4, 3) := by decide +kernel
theorem d_Mo_flow_43 : decode b_Mo_flow 43 = .ok (.return_, 1) := by decide +kernel
theorem d_Mo_flow_44 : decode b_Mo_flow 44 = .ok (.iload 4, 2) := by decide +kernel
theorem d_Mo_flow_46 : decode b_Mo_flow 46 = .ok (.bipush 9, 2) := by decide +kernel
theorem d_Mo_flow_48 : decode b_Mo_flow 48 = .ok (.if_icmp .eq 25, 3) := by decide +kernel
theorem d_Mo_flow_51 : decode b_Mo_flow 51 = .ok (.iload 4, 2) := by decide +kernel
theorem d_Mo_flow_53 : decode b_Mo_flow 53 = .ok (.bipush 21, 2) := by decide +kernel
theorem d_Mo_flow_55 : decode b_Mo_flow 55 = .ok (.if_icmp .eq 18, 3) := by decide +kernel
theorem d_Mo_flow_58 : decode b_Mo_flow 58 = .ok (.iload 4, 2) := by decide +kernel
theorem d_Mo_flow_60 : decode b_Mo_flow 60 = .ok (.bipush 22, 2) := by decide +kernel
theorem d_Mo_flow_62 : decode b_Mo_flow 62 = .ok (.if_icmp .eq 11, 3) := by decide +kernel
theorem d_Mo_flow_65 : decode b_Mo_flow 65 = .ok (.aload_n 0, 1) := by decide +kernel
theorem d_Mo_flow_66 : decode b_Mo_flow 66 = .ok (.iload_n 1, 1) := by decide +kernel
theorem d_Mo_flow_67 : decode b_Mo_flow 67 = .ok (.iload_n 2, 1) := by decide +kernel
theorem d_Mo_flow_68 : decode b_Mo_flow 68 = .ok (.iconst 1, 1) := by decide +kernel
theorem d_Mo_flow_69 : decode b_Mo_flow 69 = .ok (.iadd, 1) := by decide +kernel
theorem d_Mo_flow_70 : decode b_Mo_flow 70 = .ok (.invokevirtual 168, 3) := by decide +kernel
theorem d_Mo_flow_73 : decode b_Mo_flow 73 = .ok (.iload 4, 2) := by decide +kernel
theorem d_Mo_flow_75 : decode b_Mo_flow 75 = .ok (.bipush 9, 2) := by decide +kernel
theorem d_Mo_flow_77 : decode b_Mo_flow 77 = .ok (.if_icmp .eq 10, 3) := by decide +kernel
theorem d_Mo_flow_80 : decode b_Mo_flow 80 = .ok (.iload 4, 2) := by decide +kernel
theorem d_Mo_flow_82 : decode b_Mo_flow 82 = .ok (.bipush 10, 2) := by decide +kernel
theorem d_Mo_flow_84 : decode b_Mo_flow 84 = .ok (.if_icmp .ne 10, 3) := by decide +kernel
theorem d_Mo_flow_87 : decode b_Mo_flow 87 = .ok (.aload_n 0, 1) := by decide +kernel
theorem d_Mo_flow_88 : decode b_Mo_flow 88 = .ok (.iload_n 1, 1) := by decide +kernel
theorem d_Mo_flow_89 : decode b_Mo_flow 89 = .ok (.iload 5, 2) := by decide +kernel
theorem d_Mo_flow_91 : decode b_Mo_flow 91 = .ok (.invokevirtual 168, 3) := by decide +kernel
theorem d_Mo_flow_94 : decode b_Mo_flow 94 = .ok (.aload_n 0, 1) := by decide +kernel
theorem d_Mo_flow_95 : decode b_Mo_flow 95 = .ok (.iload_n 1, 1) := by decide +kernel
theorem d_Mo_flow_96 : decode b_Mo_flow 96 = .ok (.iload_n 2, 1) := by decide +kernel
theorem d_Mo_flow_97 : decode b_Mo_flow 97 = .ok (.invokevirtual 171, 3) := by decide +kernel
theorem d_Mo_flow_100 : decode b_Mo_flow 100 = .ok (.istore 6, 2) := by decide +kernel
theorem d_Mo_flow_102 : decode b_Mo_flow 102 = .ok (.iload 6, 2) := by decide +kernel
theorem d_Mo_flow_104 : decode b_Mo_flow 104 = .ok (.ifCond .lt 10, 3) := by decide +kernel
theorem d_Mo_flow_107 : decode b_Mo_flow 107 = .ok (.aload_n 0, 1) := by decide +kernel
theorem d_Mo_flow_108 : decode b_Mo_flow 108 = .ok (.getfield 148, 3) := by decide +kernel
theorem d_Mo_flow_111 : decode b_Mo_flow 111 = .ok (.ifCond .eq 4, 3) := by decide +kernel
theorem d_Mo_flow_114 : decode b_Mo_flow 114 = .ok (.return_, 1) := by decide +kernel
theorem d_Mo_flow_115 : decode b_Mo_flow 115 = .ok (.aload_n 0, 1) := by decide +kernel
theorem d_Mo_flow_116 : decode b_Mo_flow 116 = .ok (.iload_n 3, 1) := by decide +kernel
theorem d_Mo_flow_117 : decode b_Mo_flow 117 = .ok (.invokevirtual 160, 3) := by decide +kernel
theorem d_Mo_flow_120 : decode b_Mo_flow 120 = .ok (.aload_n 0, 1) := by decide +kernel
theorem d_Mo_flow_121 : decode b_Mo_flow 121 = .ok (.iconst 1, 1) := by decide +kernel
theorem d_Mo_flow_122 : decode b_Mo_flow 122 = .ok (.putfield 151, 3) := by decide +kernel
theorem d_Mo_flow_125 : decode b_Mo_flow 125 = .ok (.aload_n 0, 1) := by decide +kernel
theorem d_Mo_flow_126 : decode b_Mo_flow 126 = .ok (.getfield 59, 3) := by decide +kernel
theorem d_Mo_flow_129 : decode b_Mo_flow 129 = .ok (.iconst 4, 1) := by decide +kernel
theorem d_Mo_flow_130 : decode b_Mo_flow 130 = .ok (.bipush 9, 2) := by decide +kernel
theorem d_Mo_flow_132 : decode b_Mo_flow 132 = .ok (.iastore, 1) := by decide +kernel
theorem d_Mo_flow_133 : decode b_Mo_flow 133 = .ok (.aload_n 0, 1) := by decide +kernel
theorem d_Mo_flow_134 : decode b_Mo_flow 134 = .ok (.iload_n 1, 1) := by decide +kernel
theorem d_Mo_flow_135 : decode b_Mo_flow 135 = .ok (.iload 6, 2) := by decide +kernel
theorem d_Mo_flow_137 : decode b_Mo_flow 137 = .ok (.invokevirtual 168, 3) := by decide +kernel
theorem d_Mo_flow_140 : decode b_Mo_flow 140 = .ok (.return_, 1) := by decide +kernel
theorem d_Mo_load_0 : decode b_Mo_load 0 = .ok (.aload_n 0, 1) := by decide +kernel
theorem d_Mo_load_1 : decode b_Mo_load 1 = .ok (.aload_n 0, 1) := by decide +kernel
theorem d_Mo_load_2 : decode b_Mo_load 2 = .ok (.getfield 53, 3) := by decide +kernel
theorem d_Mo_load_5 : decode b_Mo_load 5 = .ok (.iload_n 1, 1) := by decide +kernel
theorem d_Mo_load_6 : decode b_Mo_load 6 = .ok (.iaload, 1) := by decide +kernel
theorem d_Mo_load_7 : decode b_Mo_load 7 = .ok (.putfield 151, 3) := by decide +kernel
theorem d_Mo_load_10 : decode b_Mo_load 10 = .ok (.iconst 0, 1) := by decide +kernel
theorem d_Mo_load_11 : decode b_Mo_load 11 = .ok (.istore_n 2, 1) := by decide +kernel
theorem d_Mo_load_12 : decode b_Mo_load 12 = .ok (.iload_n 2, 1) := by decide +kernel
theorem d_Mo_load_13 : decode b_Mo_load 13 = .ok (.iconst 4, 1) := by decide +kernel
theorem d_Mo_load_14 : decode b_Mo_load 14 = .ok (.aload_n 0, 1) := by decide +kernel
theorem d_Mo_load_15 : decode b_Mo_load 15 = .ok (.getfield 151, 3) := by decide +kernel
theorem d_Mo_load_18 : decode b_Mo_load 18 = .ok (.iadd, 1) := by decide +kernel
theorem d_Mo_load_19 : decode b_Mo_load 19 = .ok (.if_icmp .ge 26, 3) := by decide +kernel
theorem d_Mo_load_22 : decode b_Mo_load 22 = .ok (.aload_n 0, 1) := by decide +kernel
theorem d_Mo_load_23 : decode b_Mo_load 23 = .ok (.getfield 59, 3) := by decide +kernel
theorem d_Mo_load_26 : decode b_Mo_load 26 = .ok (.iload_n 2, 1) := by decide +kernel
theorem d_Mo_load_27 : decode b_Mo_load 27 = .ok (.aload_n 0, 1) := by decide +kernel
theorem d_Mo_load_28 : decode b_Mo_load 28 = .ok (.getfield 56, 3) := by decide +kernel
theorem d_Mo_load_31 : decode b_Mo_load 31 = .ok (.bipush 10, 2) := by decide +kernel
theorem d_Mo_load_33 : decode b_Mo_load 33 = .ok (.iload_n 1, 1) := by decide +kernel
theorem d_Mo_load_34 : decode b_Mo_load 34 = .ok (.imul, 1) := by decide +kernel
theorem d_Mo_load_35 : decode b_Mo_load 35 = .ok (.iload_n 2, 1) := by decide +kernel
theorem d_Mo_load_36 : decode b_Mo_load 36 = .ok (.iadd, 1) := by decide +kernel
theorem d_Mo_load_37 : decode b_Mo_load 37 = .ok (.iaload, 1) := by decide +kernel
theorem d_Mo_load_38 : decode b_Mo_load 38 = .ok (.iastore, 1) := by decide +kernel
theorem d_Mo_load_39 : decode b_Mo_load 39 = .ok (.iinc 2 1, 3) := by decide +kernel
theorem d_Mo_load_42 : decode b_Mo_load 42 = .ok (.goto (-30), 3) := by decide +kernel
theorem d_Mo_load_45 : decode b_Mo_load 45 = .ok (.return_, 1) := by decide +kernel
theorem d_Mo_effect_0 : decode b_Mo_effect 0 = .ok (.bipush 8, 2) := by decide +kernel
theorem d_Mo_effect_2 : decode b_Mo_effect 2 = .ok (.istore_n 3, 1) := by decide +kernel
theorem d_Mo_effect_3 : decode b_Mo_effect 3 = .ok (.iload_n 1, 1) := by decide +kernel
theorem d_Mo_effect_4 : decode b_Mo_effect 4 = .ok (.iconst 2, 1) := by decide +kernel
theorem d_Mo_effect_5 : decode b_Mo_effect 5 = .ok (.if_icmp .ne 19, 3) := by decide +kernel
theorem d_Mo_effect_8 : decode b_Mo_effect 8 = .ok (.aload_n 0, 1) := by decide +kernel
theorem d_Mo_effect_9 : decode b_Mo_effect 9 = .ok (.getfield 59, 3) := by decide +kernel
theorem d_Mo_effect_12 : decode b_Mo_effect 12 = .ok (.iload_n 2, 1) := by decide +kernel
theorem d_Mo_effect_13 : decode b_Mo_effect 13 = .ok (.iaload, 1) := by decide +kernel
theorem d_Mo_effect_14 : decode b_Mo_effect 14 = .ok (.bipush 8, 2) := by decide +kernel
theorem d_Mo_effect_16 : decode b_Mo_effect 16 = .ok (.if_icmp .ne 8, 3) := by decide +kernel
theorem d_Mo_effect_19 : decode b_Mo_effect 19 = .ok (.aload_n 0, 1) := by decide +kernel
theorem d_Mo_effect_20 : decode b_Mo_effect 20 = .ok (.iconst 1, 1) := by decide +kernel
theorem d_Mo_effect_21 : decode b_Mo_effect 21 = .ok (.putfield 148, 3) := by decide +kernel
theorem d_Mo_effect_24 : decode b_Mo_effect 24 = .ok (.iload_n 1, 1) := by decide +kernel
theorem d_Mo_effect_25 : decode b_Mo_effect 25 = .ok (.iconst 3, 1) := by decide +kernel
theorem d_Mo_effect_26 : decode b_Mo_effect 26 = .ok (.if_icmp .eq 8, 3) := by decide +kernel
theorem d_Mo_effect_29 : decode b_Mo_effect 29 = .ok (.iload_n 1, 1) := by decide +kernel
theorem d_Mo_effect_30 : decode b_Mo_effect 30 = .ok (.iconst 4, 1) := by decide +kernel
theorem d_Mo_effect_31 : decode b_Mo_effect 31 = .ok (.if_icmp .ne 10, 3) := by decide +kernel
theorem d_Mo_effect_34 : decode b_Mo_effect 34 = .ok (.aload_n 0, 1) := by decide +kernel
theorem d_Mo_effect_35 : decode b_Mo_effect 35 = .ok (.bipush 8, 2) := by decide +kernel
theorem d_Mo_effect_37 : decode b_Mo_effect 37 = .ok (.invokevirtual 174, 3) := by decide +kernel
theorem d_Mo_effect_40 : decode b_Mo_effect 40 = .ok (.istore_n 3, 1) := by decide +kernel
theorem d_Mo_effect_41 : decode b_Mo_effect 41 = .ok (.iload_n 1, 1) := by decide +kernel
theorem d_Mo_effect_42 : decode b_Mo_effect 42 = .ok (.iconst 3, 1) := by decide +kernel
theorem d_Mo_effect_43 : decode b_Mo_effect 43 = .ok (.if_icmp .ne 10, 3) := by decide +kernel
theorem d_Mo_effect_46 : decode b_Mo_effect 46 = .ok (.aload_n 0, 1) := by decide +kernel
theorem d_Mo_effect_47 : decode b_Mo_effect 47 = .ok (.getfield 59, 3) := by decide +kernel
theorem d_Mo_effect_50 : decode b_Mo_effect 50 = .ok (.iload_n 2, 1) := by decide +kernel
theorem d_Mo_effect_51 : decode b_Mo_effect 51 = .ok (.iload_n 3, 1) := by decide +kernel
theorem d_Mo_effect_52 : decode b_Mo_effect 52 = .ok (.iastore, 1) := by decide +kernel
theorem d_Mo_effect_53 : decode b_Mo_effect 53 = .ok (.iload_n 1, 1) := by decide +kernel
theorem d_Mo_effect_54 : decode b_Mo_effect 54 = .ok (.iconst 5, 1) := by decide +kernel
theorem d_Mo_effect_55 : decode b_Mo_effect 55 = .ok (.if_icmp .lt 9, 3) := by decide +kernel
theorem d_Mo_effect_58 : decode b_Mo_effect 58 = .ok (.iload_n 1, 1) := by decide +kernel
theorem d_Mo_effect_59 : decode b_Mo_effect 59 = .ok (.bipush 8, 2) := by decide +kernel
theorem d_Mo_effect_61 : decode b_Mo_effect 61 = .ok (.if_icmp .le 15, 3) := by decide +kernel
theorem d_Mo_effect_64 : decode b_Mo_effect 64 = .ok (.iload_n 1, 1) := by decide +kernel
theorem d_Mo_effect_65 : decode b_Mo_effect 65 = .ok (.bipush 13, 2) := by decide +kernel
theorem d_Mo_effect_67 : decode b_Mo_effect 67 = .ok (.if_icmp .eq 9, 3) := by decide +kernel
theorem d_Mo_effect_70 : decode b_Mo_effect 70 = .ok (.iload_n 1, 1) := by decide +kernel
theorem d_Mo_effect_71 : decode b_Mo_effect 71 = .ok (.bipush 17, 2) := by decide +kernel
theorem d_Mo_effect_73 : decode b_Mo_effect 73 = .ok (.if_icmp .ne 10, 3) := by decide +kernel
theorem d_Mo_effect_76 : decode b_Mo_effect 76 = .ok (.aload_n 0, 1) := by decide +kernel
theorem d_Mo_effect_77 : decode b_Mo_effect 77 = .ok (.bipush 9, 2) := by decide +kernel
theorem d_Mo_effect_79 : decode b_Mo_effect 79 = .ok (.invokevirtual 174, 3) := by decide +kernel
theorem d_Mo_effect_82 : decode b_Mo_effect 82 = .ok (.istore_n 3, 1) := by decide +kernel
theorem d_Mo_effect_83 : decode b_Mo_effect 83 = .ok (.iload_n 1, 1) := by decide +kernel
theorem d_Mo_effect_84 : decode b_Mo_effect 84 = .ok (.iconst 5, 1) := by decide +kernel
theorem d_Mo_effect_85 : decode b_Mo_effect 85 = .ok (.if_icmp .lt 9, 3) := by decide +kernel
theorem d_Mo_effect_88 : decode b_Mo_effect 88 = .ok (.iload_n 1, 1) := by decide +kernel
theorem d_Mo_effect_89 : decode b_Mo_effect 89 = .ok (.bipush 8, 2) := by decide +kernel
theorem d_Mo_effect_91 : decode b_Mo_effect 91 = .ok (.if_icmp .le 21, 3) := by decide +kernel
theorem d_Mo_effect_94 : decode b_Mo_effect 94 = .ok (.iload_n 1, 1) := by decide +kernel
theorem d_Mo_effect_95 : decode b_Mo_effect 95 = .ok (.bipush 10, 2) := by decide +kernel
theorem d_Mo_effect_97 : decode b_Mo_effect 97 = .ok (.if_icmp .eq 15, 3) := by decide +kernel
theorem d_Mo_effect_100 : decode b_Mo_effect 100 = .ok (.iload_n 1, 1) := by decide +kernel
theorem d_Mo_effect_101 : decode b_Mo_effect 101 = .ok (.bipush 15, 2) := by decide +kernel
theorem d_Mo_effect_103 : decode b_Mo_effect 103 = .ok (.if_icmp .eq 9, 3) := by decide +kernel
theorem d_Mo_effect_106 : decode b_Mo_effect 106 = .ok (.iload_n 1, 1) := by decide +kernel
theorem d_Mo_effect_107 : decode b_Mo_effect 107 = .ok (.bipush 20, 2) := by decide +kernel
theorem d_Mo_effect_109 : decode b_Mo_effect 109 = .ok (.if_icmp .lt 10, 3) := by decide +kernel
theorem d_Mo_effect_112 : decode b_Mo_effect 112 = .ok (.aload_n 0, 1) := by decide +kernel
theorem d_Mo_effect_113 : decode b_Mo_effect 113 = .ok (.bipush 9, 2) := by decide +kernel
theorem d_Mo_effect_115 : decode b_Mo_effect 115 = .ok (.invokevirtual 174, 3) := by decide +kernel
theorem d_Mo_effect_118 : decode b_Mo_effect 118 = .ok (.istore_n 3, 1) := by decide +kernel
theorem d_Mo_effect_119 : decode b_Mo_effect 119 = .ok (.iload_n 1, 1) := by decide +kernel
theorem d_Mo_effect_120 : decode b_Mo_effect 120 = .ok (.bipush 12, 2) := by decide +kernel
theorem d_Mo_effect_122 : decode b_Mo_effect 122 = .ok (.if_icmp .eq 21, 3) := by decide +kernel
theorem d_Mo_effect_125 : decode b_Mo_effect 125 = .ok (.iload_n 1, 1) := by decide +kernel
theorem d_Mo_effect_126 : decode b_Mo_effect 126 = .ok (.bipush 13, 2) := by decide +kernel
theorem d_Mo_effect_128 : decode b_Mo_effect 128 = .ok (.if_icmp .eq 15, 3) := by decide +kernel
theorem d_Mo_effect_131 : decode b_Mo_effect 131 = .ok (.iload_n 1, 1) := by decide +kernel
theorem d_Mo_effect_132 : decode b_Mo_effect 132 = .ok (.bipush 17, 2) := by decide +kernel
theorem d_Mo_effect_134 : decode b_Mo_effect 134 = .ok (.if_icmp .lt 15, 3) := by decide +kernel
theorem d_Mo_effect_137 : decode b_Mo_effect 137 = .ok (.iload_n 1, 1) := by decide +kernel
theorem d_Mo_effect_138 : decode b_Mo_effect 138 = .ok (.bipush 19, 2) := by decide +kernel
theorem d_Mo_effect_140 : decode b_Mo_effect 140 = .ok (.if_icmp .gt 9, 3) := by decide +kernel
theorem d_Mo_effect_143 : decode b_Mo_effect 143 = .ok (.aload_n 0, 1) := by decide +kernel
theorem d_Mo_effect_144 : decode b_Mo_effect 144 = .ok (.iconst 0, 1) := by decide +kernel
theorem d_Mo_effect_145 : decode b_Mo_effect 145 = .ok (.invokevirtual 174, 3) := by decide +kernel
theorem d_Mo_effect_148 : decode b_Mo_effect 148 = .ok (.istore_n 3, 1) := by decide +kernel
theorem d_Mo_effect_149 : decode b_Mo_effect 149 = .ok (.aload_n 0, 1) := by decide +kernel
theorem d_Mo_effect_150 : decode b_Mo_effect 150 = .ok (.getfield 148, 3) := by decide +kernel
theorem d_Mo_effect_153 : decode b_Mo_effect 153 = .ok (.ifCond .eq 4, 3) := by decide +kernel
theorem d_Mo_effect_156 : decode b_Mo_effect 156 = .ok (.return_, 1) := by decide +kernel
theorem d_Mo_effect_157 : decode b_Mo_effect 157 = .ok (.iload_n 1, 1) := by decide +kernel
theorem d_Mo_effect_158 : decode b_Mo_effect 158 = .ok (.bipush 12, 2) := by decide +kernel
theorem d_Mo_effect_160 : decode b_Mo_effect 160 = .ok (.if_icmp .eq 9, 3) := by decide +kernel
theorem d_Mo_effect_163 : decode b_Mo_effect 163 = .ok (.iload_n 1, 1) := by decide +kernel
theorem d_Mo_effect_164 : decode b_Mo_effect 164 = .ok (.bipush 13, 2) := by decide +kernel
theorem d_Mo_effect_166 : decode b_Mo_effect 166 = .ok (.if_icmp .ne 17, 3) := by decide +kernel
theorem d_Mo_effect_169 : decode b_Mo_effect 169 = .ok (.iload_n 2, 1) := by decide +kernel
theorem d_Mo_effect_170 : decode b_Mo_effect 170 = .ok (.aload_n 0, 1) := by decide +kernel
theorem d_Mo_effect_171 : decode b_Mo_effect 171 = .ok (.iload_n 3, 1) := by decide +kernel
theorem d_Mo_effect_172 : decode b_Mo_effect 172 = .ok (.invokevirtual 122, 3) := by decide +kernel
theorem d_Mo_effect_175 : decode b_Mo_effect 175 = .ok (.if_icmp .lt 8, 3) := by decide +kernel
theorem d_Mo_effect_178 : decode b_Mo_effect 178 = .ok (.aload_n 0, 1) := by decide +kernel
theorem d_Mo_effect_179 : decode b_Mo_effect 179 = .ok (.iconst 1, 1) := by decide +kernel
theorem d_Mo_effect_180 : decode b_Mo_effect 180 = .ok (.putfield 148, 3) := by decide +kernel
theorem d_Mo_effect_183 : decode b_Mo_effect 183 = .ok (.iload_n 1, 1) := by decide +kernel
theorem d_Mo_effect_184 : decode b_Mo_effect 184 = .ok (.bipush 17, 2) := by decide +kernel
theorem d_Mo_effect_186 : decode b_Mo_effect 186 = .ok (.if_icmp .ne 17, 3) := by decide +kernel
theorem d_Mo_effect_189 : decode b_Mo_effect 189 = .ok (.aload_n 0, 1) := by decide +kernel
theorem d_Mo_effect_190 : decode b_Mo_effect 190 = .ok (.iload_n 3, 1) := by decide +kernel
theorem d_Mo_effect_191 : decode b_Mo_effect 191 = .ok (.iload_n 2, 1) := by decide +kernel
theorem d_Mo_effect_192 : decode b_Mo_effect 192 = .ok (.invokevirtual 177, 3) := by decide +kernel
theorem d_Mo_effect_195 : decode b_Mo_effect 195 = .ok (.ifCond .ge 8, 3) := by decide +kernel
theorem d_Mo_effect_198 : decode b_Mo_effect 198 = .ok (.aload_n 0, 1) := by decide +kernel
theorem d_Mo_effect_199 : decode b_Mo_effect 199 = .ok (.iconst 1, 1) := by decide +kernel
theorem d_Mo_effect_200 : decode b_Mo_effect 200 = .ok (.putfield 148, 3) := by decide +kernel
theorem d_Mo_effect_203 : decode b_Mo_effect 203 = .ok (.iconst 0, 1) := by decide +kernel
theorem d_Mo_effect_204 : decode b_Mo_effect 204 = .ok (.istore 4, 2) := by decide +kernel
theorem d_Mo_effect_206 : decode b_Mo_effect 206 = .ok (.iload_n 1, 1) := by decide +kernel
theorem d_Mo_effect_207 : decode b_Mo_effect 207 = .ok (.bipush 16, 2) := by decide +kernel
theorem d_Mo_effect_209 : decode b_Mo_effect 209 = .ok (.if_icmp .ne 27, 3) := by decide +kernel
theorem d_Mo_effect_212 : decode b_Mo_effect 212 = .ok (.iload 4, 2) := by decide +kernel
theorem d_Mo_effect_214 : decode b_Mo_effect 214 = .ok (.aload_n 0, 1) := by decide +kernel
theorem d_Mo_effect_215 : decode b_Mo_effect 215 = .ok (.getfield 25, 3) := by decide +kernel
theorem d_Mo_effect_218 : decode b_Mo_effect 218 = .ok (.iload_n 2, 1) := by decide +kernel
theorem d_Mo_effect_219 : decode b_Mo_effect 219 = .ok (.iaload, 1) := by decide +kernel
theorem d_Mo_effect_220 : decode b_Mo_effect 220 = .ok (.if_icmp .ge 16, 3) := by decide +kernel
theorem d_Mo_effect_223 : decode b_Mo_effect 223 = .ok (.aload_n 0, 1) := by decide +kernel
theorem d_Mo_effect_224 : decode b_Mo_effect 224 = .ok (.bipush 9, 2) := by decide +kernel
theorem d_Mo_effect_226 : decode b_Mo_effect 226 = .ok (.invokevirtual 174, 3) := by decide +kernel
theorem d_Mo_effect_229 : decode b_Mo_effect 229 = .ok (.istore_n 3, 1) := by decide +kernel
theorem d_Mo_effect_230 : decode b_Mo_effect 230 = .ok (.iinc 4 1, 3) := by decide +kernel
theorem d_Mo_effect_233 : decode b_Mo_effect 233 = .ok (.goto (-27), 3) := by decide +kernel
theorem d_Mo_effect_236 : decode b_Mo_effect 236 = .ok (.iload_n 1, 1) := by decide +kernel
theorem d_Mo_effect_237 : decode b_Mo_effect 237 = .ok (.iconst 2, 1) := by decide +kernel
theorem d_Mo_effect_238 : decode b_Mo_effect 238 = .ok (.if_icmp .ne 13, 3) := by decide +kernel
theorem d_Mo_effect_241 : decode b_Mo_effect 241 = .ok (.aload_n 0, 1) := by decide +kernel
theorem d_Mo_effect_242 : decode b_Mo_effect 242 = .ok (.aload_n 0, 1) := by decide +kernel
theorem d_Mo_effect_243 : decode b_Mo_effect 243 = .ok (.getfield 59, 3) := by decide +kernel
theorem d_Mo_effect_246 : decode b_Mo_effect 246 = .ok (.iload_n 2, 1) := by decide +kernel
theorem d_Mo_effect_247 : decode b_Mo_effect 247 = .ok (.iaload, 1) := by decide +kernel
theorem d_Mo_effect_248 : decode b_Mo_effect 248 = .ok (.invokevirtual 180, 3) := by decide +kernel
theorem d_Mo_effect_251 : decode b_Mo_effect 251 = .ok (.iload_n 1, 1) := by decide +kernel
theorem d_Mo_effect_252 : decode b_Mo_effect 252 = .ok (.iconst 1, 1) := by decide +kernel
theorem d_Mo_effect_253 : decode b_Mo_effect 253 = .ok (.if_icmp .eq 15, 3) := by decide +kernel
theorem d_Mo_effect_256 : decode b_Mo_effect 256 = .ok (.iload_n 1, 1) := by decide +kernel
theorem d_Mo_effect_257 : decode b_Mo_effect 257 = .ok (.bipush 11, 2) := by decide +kernel
theorem d_Mo_effect_259 : decode b_Mo_effect 259 = .ok (.if_icmp .eq 9, 3) := by decide +kernel
theorem d_Mo_effect_262 : decode b_Mo_effect 262 = .ok (.iload_n 1, 1) := by decide +kernel
theorem d_Mo_effect_263 : decode b_Mo_effect 263 = .ok (.bipush 18, 2) := by decide +kernel
theorem d_Mo_effect_265 : decode b_Mo_effect 265 = .ok (.if_icmp .ne 8, 3) := by decide +kernel
theorem d_Mo_effect_268 : decode b_Mo_effect 268 = .ok (.aload_n 0, 1) := by decide +kernel
theorem d_Mo_effect_269 : decode b_Mo_effect 269 = .ok (.iload_n 2, 1) := by decide +kernel
theorem d_Mo_effect_270 : decode b_Mo_effect 270 = .ok (.invokevirtual 180, 3) := by decide +kernel
theorem d_Mo_effect_273 : decode b_Mo_effect 273 = .ok (.iload_n 1, 1) := by decide +kernel
theorem d_Mo_effect_274 : decode b_Mo_effect 274 = .ok (.ifCond .eq 44, 3) := by decide +kernel
theorem d_Mo_effect_277 : decode b_Mo_effect 277 = .ok (.iload_n 1, 1) := by decide +kernel
theorem d_Mo_effect_278 : decode b_Mo_effect 278 = .ok (.iconst 5, 1) := by decide +kernel
theorem d_Mo_effect_279 : decode b_Mo_effect 279 = .ok (.if_icmp .lt 9, 3) := by decide +kernel
theorem d_Mo_effect_282 : decode b_Mo_effect 282 = .ok (.iload_n 1, 1) := by decide +kernel
theorem d_Mo_effect_283 : decode b_Mo_effect 283 = .ok (.bipush 8, 2) := by decide +kernel
theorem d_Mo_effect_285 : decode b_Mo_effect 285 = .ok (.if_icmp .le 33, 3) := by decide +kernel
theorem d_Mo_effect_288 : decode b_Mo_effect 288 = .ok (.iload_n 1, 1) := by decide +kernel
theorem d_Mo_effect_289 : decode b_Mo_effect 289 = .ok (.bipush 12, 2) := by decide +kernel
theorem d_Mo_effect_291 : decode b_Mo_effect 291 = .ok (.if_icmp .eq 27, 3) := by decide +kernel
theorem d_Mo_effect_294 : decode b_Mo_effect 294 = .ok (.iload_n 1, 1) := by decide +kernel
theorem d_Mo_effect_295 : decode b_Mo_effect 295 = .ok (.bipush 14, 2) := by decide +kernel
theorem d_Mo_effect_297 : decode b_Mo_effect 297 = .ok (.if_icmp .eq 21, 3) := by decide +kernel
theorem d_Mo_effect_300 : decode b_Mo_effect 300 = .ok (.iload_n 1, 1) := by decide +kernel
theorem d_Mo_effect_301 : decode b_Mo_effect 301 = .ok (.bipush 16, 2) := by decide +kernel
theorem d_Mo_effect_303 : decode b_Mo_effect 303 = .ok (.if_icmp .eq 15, 3) := by decide +kernel
theorem d_Mo_effect_306 : decode b_Mo_effect 306 = .ok (.iload_n 1, 1) := by decide +kernel
theorem d_Mo_effect_307 : decode b_Mo_effect 307 = .ok (.bipush 17, 2) := by decide +kernel
theorem d_Mo_effect_309 : decode b_Mo_effect 309 = .ok (.if_icmp .eq 9, 3) := by decide +kernel
theorem d_Mo_effect_312 : decode b_Mo_effect 312 = .ok (.iload_n 1, 1) := by decide +kernel
theorem d_Mo_effect_313 : decode b_Mo_effect 313 = .ok (.bipush 19, 2) := by decide +kernel
theorem d_Mo_effect_315 : decode b_Mo_effect 315 = .ok (.if_icmp .ne 9, 3) := by decide +kernel
theorem d_Mo_effect_318 : decode b_Mo_effect 318 = .ok (.aload_n 0, 1) := by decide +kernel
theorem d_Mo_effect_319 : decode b_Mo_effect 319 = .ok (.bipush 9, 2) := by decide +kernel
theorem d_Mo_effect_321 : decode b_Mo_effect 321 = .ok (.invokevirtual 180, 3) := by decide +kernel
theorem d_Mo_effect_324 : decode b_Mo_effect 324 = .ok (.return_, 1) := by decide +kernel
theorem d_Mo_take_0 : decode b_Mo_take 0 = .ok (.aload_n 0, 1) := by decide +kernel
theorem d_Mo_take_1 : decode b_Mo_take 1 = .ok (.getfield 151, 3) := by decide +kernel
theorem d_Mo_take_4 : decode b_Mo_take 4 = .ok (.ifCond .ne 11, 3) := by decide +kernel
theorem d_Mo_take_7 : decode b_Mo_take 7 = .ok (.aload_n 0, 1) := by decide +kernel
theorem d_Mo_take_8 : decode b_Mo_take 8 = .ok (.iconst 1, 1) := by decide +kernel
theorem d_Mo_take_9 : decode b_Mo_take 9 = .ok (.putfield 148, 3) := by decide +kernel
theorem d_Mo_take_12 : decode b_Mo_take 12 = .ok (.bipush 8, 2) := by decide +kernel
theorem d_Mo_take_14 : decode b_Mo_take 14 = .ok (.ireturn, 1) := by decide +kernel
theorem d_Mo_take_15 : decode b_Mo_take 15 = .ok (.aload_n 0, 1) := by decide +kernel
theorem d_Mo_take_16 : decode b_Mo_take 16 = .ok (.dup, 1) := by decide +kernel
theorem d_Mo_take_17 : decode b_Mo_take 17 = .ok (.getfield 151, 3) := by decide +kernel
theorem d_Mo_take_20 : decode b_Mo_take 20 = .ok (.iconst 1, 1) := by decide +kernel
theorem d_Mo_take_21 : decode b_Mo_take 21 = .ok (.isub, 1) := by decide +kernel
theorem d_Mo_take_22 : decode b_Mo_take 22 = .ok (.putfield 151, 3) := by decide +kernel
theorem d_Mo_take_25 : decode b_Mo_take 25 = .ok (.aload_n 0, 1) := by decide +kernel
theorem d_Mo_take_26 : decode b_Mo_take 26 = .ok (.getfield 59, 3) := by decide +kernel
theorem d_Mo_take_29 : decode b_Mo_take 29 = .ok (.iconst 4, 1) := by decide +kernel
theorem d_Mo_take_30 : decode b_Mo_take 30 = .ok (.aload_n 0, 1) := by decide +kernel
theorem d_Mo_take_31 : decode b_Mo_take 31 = .ok (.getfield 151, 3) := by decide +kernel
theorem d_Mo_take_34 : decode b_Mo_take 34 = .ok (.iadd, 1) := by decide +kernel
theorem d_Mo_take_35 : decode b_Mo_take 35 = .ok (.iaload, 1) := by decide +kernel
theorem d_Mo_take_36 : decode b_Mo_take 36 = .ok (.istore_n 2, 1) := by decide +kernel
theorem d_Mo_take_37 : decode b_Mo_take 37 = .ok (.iload_n 1, 1) := by decide +kernel
theorem d_Mo_take_38 : decode b_Mo_take 38 = .ok (.bipush 9, 2) := by decide +kernel
theorem d_Mo_take_40 : decode b_Mo_take 40 = .ok (.if_icmp .ne 9, 3) := by decide +kernel
theorem d_Mo_take_43 : decode b_Mo_take 43 = .ok (.iload_n 2, 1) := by decide +kernel
theorem d_Mo_take_44 : decode b_Mo_take 44 = .ok (.bipush 9, 2) := by decide +kernel
theorem d_Mo_take_46 : decode b_Mo_take 46 = .ok (.if_icmp .ne 13, 3) := by decide +kernel
theorem d_Mo_take_49 : decode b_Mo_take 49 = .ok (.iload_n 1, 1) := by decide +kernel
theorem d_Mo_take_50 : decode b_Mo_take 50 = .ok (.ifCond .ne 14, 3) := by decide +kernel
theorem d_Mo_take_53 : decode b_Mo_take 53 = .ok (.iload_n 2, 1) := by decide +kernel
theorem d_Mo_take_54 : decode b_Mo_take 54 = .ok (.bipush 8, 2) := by decide +kernel
theorem d_Mo_take_56 : decode b_Mo_take 56 = .ok (.if_icmp .lt 8, 3) := by decide +kernel
theorem d_Mo_take_59 : decode b_Mo_take 59 = .ok (.aload_n 0, 1) := by decide +kernel
theorem d_Mo_take_60 : decode b_Mo_take 60 = .ok (.iconst 1, 1) := by decide +kernel
theorem d_Mo_take_61 : decode b_Mo_take 61 = .ok (.putfield 148, 3) := by decide +kernel
theorem d_Mo_take_64 : decode b_Mo_take 64 = .ok (.iload_n 2, 1) := by decide +kernel
theorem d_Mo_take_65 : decode b_Mo_take 65 = .ok (.ireturn, 1) := by decide +kernel
theorem d_Mo_give_0 : decode b_Mo_give 0 = .ok (.aload_n 0, 1) := by decide +kernel
theorem d_Mo_give_1 : decode b_Mo_give 1 = .ok (.getfield 151, 3) := by decide +kernel
theorem d_Mo_give_4 : decode b_Mo_give 4 = .ok (.bipush 6, 2) := by decide +kernel
theorem d_Mo_give_6 : decode b_Mo_give 6 = .ok (.if_icmp .ne 11, 3) := by decide +kernel
theorem d_Mo_give_9 : decode b_Mo_give 9 = .ok (.aload_n 0, 1) := by decide +kernel
theorem d_Mo_give_10 : decode b_Mo_give 10 = .ok (.iconst 1, 1) := by decide +kernel
theorem d_Mo_give_11 : decode b_Mo_give 11 = .ok (.putfield 148, 3) := by decide +kernel
theorem d_Mo_give_14 : decode b_Mo_give 14 = .ok (.goto 15, 3) := by decide +kernel
theorem d_Mo_give_17 : decode b_Mo_give 17 = .ok (.aload_n 0, 1) := by decide +kernel
theorem d_Mo_give_18 : decode b_Mo_give 18 = .ok (.getfield 59, 3) := by decide +kernel
theorem d_Mo_give_21 : decode b_Mo_give 21 = .ok (.iconst 4, 1) := by decide +kernel
theorem d_Mo_give_22 : decode b_Mo_give 22 = .ok (.aload_n 0, 1) := by decide +kernel
theorem d_Mo_give_23 : decode b_Mo_give 23 = .ok (.getfield 151, 3) := by decide +kernel
theorem d_Mo_give_26 : decode b_Mo_give 26 = .ok (.iadd, 1) := by decide +kernel
theorem d_Mo_give_27 : decode b_Mo_give 27 = .ok (.iload_n 1, 1) := by decide +kernel
theorem d_Mo_give_28 : decode b_Mo_give 28 = .ok (.iastore, 1) := by decide +kernel
theorem d_Mo_give_29 : decode b_Mo_give 29 = .ok (.aload_n 0, 1) := by decide +kernel
theorem d_Mo_give_30 : decode b_Mo_give 30 = .ok (.dup, 1) := by decide +kernel
theorem d_Mo_give_31 : decode b_Mo_give 31 = .ok (.getfield 151, 3) := by decide +kernel
theorem d_Mo_give_34 : decode b_Mo_give 34 = .ok (.iconst 1, 1) := by decide +kernel
