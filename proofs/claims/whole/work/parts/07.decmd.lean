theorem d_Mo_trigger_65 : decode b_Mo_trigger 65 = .ok (.getfield 232, 3) := by decide +kernel
theorem d_Mo_trigger_68 : decode b_Mo_trigger 68 = .ok (.iconst 1, 1) := by decide +kernel
theorem d_Mo_trigger_69 : decode b_Mo_trigger 69 = .ok (.iadd, 1) := by decide +kernel
theorem d_Mo_trigger_70 : decode b_Mo_trigger 70 = .ok (.putfield 232, 3) := by decide +kernel
theorem d_Mo_trigger_73 : decode b_Mo_trigger 73 = .ok (.aload_n 0, 1) := by decide +kernel
theorem d_Mo_trigger_74 : decode b_Mo_trigger 74 = .ok (.getfield 16, 3) := by decide +kernel
theorem d_Mo_trigger_77 : decode b_Mo_trigger 77 = .ok (.iload_n 3, 1) := by decide +kernel
theorem d_Mo_trigger_78 : decode b_Mo_trigger 78 = .ok (.iaload, 1) := by decide +kernel
theorem d_Mo_trigger_79 : decode b_Mo_trigger 79 = .ok (.ifCond .lt 53, 3) := by decide +kernel
theorem d_Mo_trigger_82 : decode b_Mo_trigger 82 = .ok (.aload_n 0, 1) := by decide +kernel
theorem d_Mo_trigger_83 : decode b_Mo_trigger 83 = .ok (.getfield 226, 3) := by decide +kernel
theorem d_Mo_trigger_86 : decode b_Mo_trigger 86 = .ok (.ifCond .le 15, 3) := by decide +kernel
theorem d_Mo_trigger_89 : decode b_Mo_trigger 89 = .ok (.aload_n 0, 1) := by decide +kernel
theorem d_Mo_trigger_90 : decode b_Mo_trigger 90 = .ok (.getfield 83, 3) := by decide +kernel
theorem d_Mo_trigger_93 : decode b_Mo_trigger 93 = .ok (.aload_n 0, 1) := by decide +kernel
theorem d_Mo_trigger_94 : decode b_Mo_trigger 94 = .ok (.getfield 226, 3) := by decide +kernel
theorem d_Mo_trigger_97 : decode b_Mo_trigger 97 = .ok (.iconst 1, 1) := by decide +kernel
theorem d_Mo_trigger_98 : decode b_Mo_trigger 98 = .ok (.isub, 1) := by decide +kernel
theorem d_Mo_trigger_99 : decode b_Mo_trigger 99 = .ok (.iconst 1, 1) := by decide +kernel
theorem d_Mo_trigger_100 : decode b_Mo_trigger 100 = .ok (.bastore, 1) := by decide +kernel
theorem d_Mo_trigger_101 : decode b_Mo_trigger 101 = .ok (.aload_n 0, 1) := by decide +kernel
theorem d_Mo_trigger_102 : decode b_Mo_trigger 102 = .ok (.getfield 226, 3) := by decide +kernel
theorem d_Mo_trigger_105 : decode b_Mo_trigger 105 = .ok (.bipush 10, 2) := by decide +kernel
theorem d_Mo_trigger_107 : decode b_Mo_trigger 107 = .ok (.if_icmp .ne 12, 3) := by decide +kernel
theorem d_Mo_trigger_110 : decode b_Mo_trigger 110 = .ok (.aload_n 0, 1) := by decide +kernel
theorem d_Mo_trigger_111 : decode b_Mo_trigger 111 = .ok (.bipush (-5), 2) := by decide +kernel
theorem d_Mo_trigger_113 : decode b_Mo_trigger 113 = .ok (.invokevirtual 251, 3) := by decide +kernel
theorem d_Mo_trigger_116 : decode b_Mo_trigger 116 = .ok (.goto 14, 3) := by decide +kernel
theorem d_Mo_trigger_119 : decode b_Mo_trigger 119 = .ok (.aload_n 0, 1) := by decide +kernel
theorem d_Mo_trigger_120 : decode b_Mo_trigger 120 = .ok (.aload_n 0, 1) := by decide +kernel
theorem d_Mo_trigger_121 : decode b_Mo_trigger 121 = .ok (.getfield 16, 3) := by decide +kernel
theorem d_Mo_trigger_124 : decode b_Mo_trigger 124 = .ok (.iload_n 3, 1) := by decide +kernel
theorem d_Mo_trigger_125 : decode b_Mo_trigger 125 = .ok (.iaload, 1) := by decide +kernel
theorem d_Mo_trigger_126 : decode b_Mo_trigger 126 = .ok (.iconst 1, 1) := by decide +kernel
theorem d_Mo_trigger_127 : decode b_Mo_trigger 127 = .ok (.invokevirtual 247, 3) := by decide +kernel
theorem d_Mo_trigger_130 : decode b_Mo_trigger 130 = .ok (.iconst 0, 1) := by decide +kernel
theorem d_Mo_trigger_131 : decode b_Mo_trigger 131 = .ok (.ireturn, 1) := by decide +kernel
theorem d_Mo_trigger_132 : decode b_Mo_trigger 132 = .ok (.iinc 2 1, 3) := by decide +kernel
theorem d_Mo_trigger_135 : decode b_Mo_trigger 135 = .ok (.goto (-133), 3) := by decide +kernel
theorem d_Mo_trigger_138 : decode b_Mo_trigger 138 = .ok (.iconst 0, 1) := by decide +kernel
theorem d_Mo_trigger_139 : decode b_Mo_trigger 139 = .ok (.ireturn, 1) := by decide +kernel
theorem d_Mo_raise_0 : decode b_Mo_raise 0 = .ok (.aload_n 0, 1) := by decide +kernel
theorem d_Mo_raise_1 : decode b_Mo_raise 1 = .ok (.getfield 226, 3) := by decide +kernel
theorem d_Mo_raise_4 : decode b_Mo_raise 4 = .ok (.ifCond .le 76, 3) := by decide +kernel
theorem d_Mo_raise_7 : decode b_Mo_raise 7 = .ok (.aload_n 0, 1) := by decide +kernel
theorem d_Mo_raise_8 : decode b_Mo_raise 8 = .ok (.getfield 226, 3) := by decide +kernel
theorem d_Mo_raise_11 : decode b_Mo_raise 11 = .ok (.iconst 1, 1) := by decide +kernel
theorem d_Mo_raise_12 : decode b_Mo_raise 12 = .ok (.isub, 1) := by decide +kernel
theorem d_Mo_raise_13 : decode b_Mo_raise 13 = .ok (.istore_n 2, 1) := by decide +kernel
theorem d_Mo_raise_14 : decode b_Mo_raise 14 = .ok (.aload_n 0, 1) := by decide +kernel
theorem d_Mo_raise_15 : decode b_Mo_raise 15 = .ok (.aload_n 0, 1) := by decide +kernel
theorem d_Mo_raise_16 : decode b_Mo_raise 16 = .ok (.getfield 71, 3) := by decide +kernel
theorem d_Mo_raise_19 : decode b_Mo_raise 19 = .ok (.iload_n 2, 1) := by decide +kernel
theorem d_Mo_raise_20 : decode b_Mo_raise 20 = .ok (.iaload, 1) := by decide +kernel
theorem d_Mo_raise_21 : decode b_Mo_raise 21 = .ok (.aload_n 0, 1) := by decide +kernel
theorem d_Mo_raise_22 : decode b_Mo_raise 22 = .ok (.getfield 74, 3) := by decide +kernel
theorem d_Mo_raise_25 : decode b_Mo_raise 25 = .ok (.iload_n 2, 1) := by decide +kernel
theorem d_Mo_raise_26 : decode b_Mo_raise 26 = .ok (.iaload, 1) := by decide +kernel
theorem d_Mo_raise_27 : decode b_Mo_raise 27 = .ok (.invokevirtual 171, 3) := by decide +kernel
theorem d_Mo_raise_30 : decode b_Mo_raise 30 = .ok (.istore_n 3, 1) := by decide +kernel
theorem d_Mo_raise_31 : decode b_Mo_raise 31 = .ok (.iload_n 3, 1) := by decide +kernel
theorem d_Mo_raise_32 : decode b_Mo_raise 32 = .ok (.ifCond .lt 35, 3) := by decide +kernel
theorem d_Mo_raise_35 : decode b_Mo_raise 35 = .ok (.aload_n 0, 1) := by decide +kernel
theorem d_Mo_raise_36 : decode b_Mo_raise 36 = .ok (.getfield 74, 3) := by decide +kernel
theorem d_Mo_raise_39 : decode b_Mo_raise 39 = .ok (.iload_n 2, 1) := by decide +kernel
theorem d_Mo_raise_40 : decode b_Mo_raise 40 = .ok (.iload_n 3, 1) := by decide +kernel
theorem d_Mo_raise_41 : decode b_Mo_raise 41 = .ok (.iastore, 1) := by decide +kernel
theorem d_Mo_raise_42 : decode b_Mo_raise 42 = .ok (.aload_n 0, 1) := by decide +kernel
theorem d_Mo_raise_43 : decode b_Mo_raise 43 = .ok (.getfield 77, 3) := by decide +kernel
theorem d_Mo_raise_46 : decode b_Mo_raise 46 = .ok (.iload_n 2, 1) := by decide +kernel
theorem d_Mo_raise_47 : decode b_Mo_raise 47 = .ok (.iconst 1, 1) := by decide +kernel
theorem d_Mo_raise_48 : decode b_Mo_raise 48 = .ok (.iastore, 1) := by decide +kernel
theorem d_Mo_raise_49 : decode b_Mo_raise 49 = .ok (.aload_n 0, 1) := by decide +kernel
theorem d_Mo_raise_50 : decode b_Mo_raise 50 = .ok (.getfield 89, 3) := by decide +kernel
theorem d_Mo_raise_53 : decode b_Mo_raise 53 = .ok (.bipush 6, 2) := by decide +kernel
theorem d_Mo_raise_55 : decode b_Mo_raise 55 = .ok (.iload_n 2, 1) := by decide +kernel
theorem d_Mo_raise_56 : decode b_Mo_raise 56 = .ok (.imul, 1) := by decide +kernel
theorem d_Mo_raise_57 : decode b_Mo_raise 57 = .ok (.iload_n 1, 1) := by decide +kernel
theorem d_Mo_raise_58 : decode b_Mo_raise 58 = .ok (.iastore, 1) := by decide +kernel
theorem d_Mo_raise_59 : decode b_Mo_raise 59 = .ok (.aload_n 0, 1) := by decide +kernel
theorem d_Mo_raise_60 : decode b_Mo_raise 60 = .ok (.getfield 83, 3) := by decide +kernel
theorem d_Mo_raise_63 : decode b_Mo_raise 63 = .ok (.iload_n 2, 1) := by decide +kernel
theorem d_Mo_raise_64 : decode b_Mo_raise 64 = .ok (.iconst 0, 1) := by decide +kernel
theorem d_Mo_raise_65 : decode b_Mo_raise 65 = .ok (.bastore, 1) := by decide +kernel
theorem d_Mo_raise_66 : decode b_Mo_raise 66 = .ok (.return_, 1) := by decide +kernel
theorem d_Mo_raise_67 : decode b_Mo_raise 67 = .ok (.aload_n 0, 1) := by decide +kernel
theorem d_Mo_raise_68 : decode b_Mo_raise 68 = .ok (.dup, 1) := by decide +kernel
theorem d_Mo_raise_69 : decode b_Mo_raise 69 = .ok (.getfield 226, 3) := by decide +kernel
theorem d_Mo_raise_72 : decode b_Mo_raise 72 = .ok (.iconst 1, 1) := by decide +kernel
theorem d_Mo_raise_73 : decode b_Mo_raise 73 = .ok (.isub, 1) := by decide +kernel
theorem d_Mo_raise_74 : decode b_Mo_raise 74 = .ok (.putfield 226, 3) := by decide +kernel
theorem d_Mo_raise_77 : decode b_Mo_raise 77 = .ok (.goto (-77), 3) := by decide +kernel
theorem d_Mo_raise_80 : decode b_Mo_raise 80 = .ok (.aload_n 0, 1) := by decide +kernel
theorem d_Mo_raise_81 : decode b_Mo_raise 81 = .ok (.iconst 1, 1) := by decide +kernel
theorem d_Mo_raise_82 : decode b_Mo_raise 82 = .ok (.putfield 214, 3) := by decide +kernel
theorem d_Mo_raise_85 : decode b_Mo_raise 85 = .ok (.aload_n 0, 1) := by decide +kernel
theorem d_Mo_raise_86 : decode b_Mo_raise 86 = .ok (.iload_n 1, 1) := by decide +kernel
theorem d_Mo_raise_87 : decode b_Mo_raise 87 = .ok (.putfield 217, 3) := by decide +kernel
theorem d_Mo_raise_90 : decode b_Mo_raise 90 = .ok (.return_, 1) := by decide +kernel
theorem d_Mo_enter_0 : decode b_Mo_enter 0 = .ok (.aload_n 0, 1) := by decide +kernel
theorem d_Mo_enter_1 : decode b_Mo_enter 1 = .ok (.getfield 71, 3) := by decide +kernel
theorem d_Mo_enter_4 : decode b_Mo_enter 4 = .ok (.aload_n 0, 1) := by decide +kernel
theorem d_Mo_enter_5 : decode b_Mo_enter 5 = .ok (.getfield 226, 3) := by decide +kernel
theorem d_Mo_enter_8 : decode b_Mo_enter 8 = .ok (.iload_n 1, 1) := by decide +kernel
theorem d_Mo_enter_9 : decode b_Mo_enter 9 = .ok (.iastore, 1) := by decide +kernel
theorem d_Mo_enter_10 : decode b_Mo_enter 10 = .ok (.aload_n 0, 1) := by decide +kernel
theorem d_Mo_enter_11 : decode b_Mo_enter 11 = .ok (.getfield 74, 3) := by decide +kernel
theorem d_Mo_enter_14 : decode b_Mo_enter 14 = .ok (.aload_n 0, 1) := by decide +kernel
theorem d_Mo_enter_15 : decode b_Mo_enter 15 = .ok (.getfield 226, 3) := by decide +kernel
theorem d_Mo_enter_18 : decode b_Mo_enter 18 = .ok (.iconst 0, 1) := by decide +kernel
theorem d_Mo_enter_19 : decode b_Mo_enter 19 = .ok (.iastore, 1) := by decide +kernel
theorem d_Mo_enter_20 : decode b_Mo_enter 20 = .ok (.aload_n 0, 1) := by decide +kernel
theorem d_Mo_enter_21 : decode b_Mo_enter 21 = .ok (.getfield 77, 3) := by decide +kernel
theorem d_Mo_enter_24 : decode b_Mo_enter 24 = .ok (.aload_n 0, 1) := by decide +kernel
theorem d_Mo_enter_25 : decode b_Mo_enter 25 = .ok (.getfield 226, 3) := by decide +kernel
theorem d_Mo_enter_28 : decode b_Mo_enter 28 = .ok (.iconst 0, 1) := by decide +kernel
theorem d_Mo_enter_29 : decode b_Mo_enter 29 = .ok (.iastore, 1) := by decide +kernel
theorem d_Mo_enter_30 : decode b_Mo_enter 30 = .ok (.aload_n 0, 1) := by decide +kernel
theorem d_Mo_enter_31 : decode b_Mo_enter 31 = .ok (.getfield 80, 3) := by decide +kernel
theorem d_Mo_enter_34 : decode b_Mo_enter 34 = .ok (.aload_n 0, 1) := by decide +kernel
theorem d_Mo_enter_35 : decode b_Mo_enter 35 = .ok (.getfield 226, 3) := by decide +kernel
theorem d_Mo_enter_38 : decode b_Mo_enter 38 = .ok (.iload_n 2, 1) := by decide +kernel
theorem d_Mo_enter_39 : decode b_Mo_enter 39 = .ok (.bastore, 1) := by decide +kernel
theorem d_Mo_enter_40 : decode b_Mo_enter 40 = .ok (.aload_n 0, 1) := by decide +kernel
theorem d_Mo_enter_41 : decode b_Mo_enter 41 = .ok (.getfield 83, 3) := by decide +kernel
theorem d_Mo_enter_44 : decode b_Mo_enter 44 = .ok (.aload_n 0, 1) := by decide +kernel
theorem d_Mo_enter_45 : decode b_Mo_enter 45 = .ok (.getfield 226, 3) := by decide +kernel
theorem d_Mo_enter_48 : decode b_Mo_enter 48 = .ok (.iconst 0, 1) := by decide +kernel
theorem d_Mo_enter_49 : decode b_Mo_enter 49 = .ok (.bastore, 1) := by decide +kernel
theorem d_Mo_enter_50 : decode b_Mo_enter 50 = .ok (.iconst 0, 1) := by decide +kernel
theorem d_Mo_enter_51 : decode b_Mo_enter 51 = .ok (.istore_n 3, 1) := by decide +kernel
theorem d_Mo_enter_52 : decode b_Mo_enter 52 = .ok (.iload_n 3, 1) := by decide +kernel
theorem d_Mo_enter_53 : decode b_Mo_enter 53 = .ok (.iconst 4, 1) := by decide +kernel
theorem d_Mo_enter_54 : decode b_Mo_enter 54 = .ok (.if_icmp .ge 23, 3) := by decide +kernel
theorem d_Mo_enter_57 : decode b_Mo_enter 57 = .ok (.aload_n 0, 1) := by decide +kernel
theorem d_Mo_enter_58 : decode b_Mo_enter 58 = .ok (.getfield 86, 3) := by decide +kernel
theorem d_Mo_enter_61 : decode b_Mo_enter 61 = .ok (.iconst 4, 1) := by decide +kernel
theorem d_Mo_enter_62 : decode b_Mo_enter 62 = .ok (.aload_n 0, 1) := by decide +kernel
theorem d_Mo_enter_63 : decode b_Mo_enter 63 = .ok (.getfield 226, 3) := by decide +kernel
theorem d_Mo_enter_66 : decode b_Mo_enter 66 = .ok (.imul, 1) := by decide +kernel
theorem d_Mo_enter_67 : decode b_Mo_enter 67 = .ok (.iload_n 3, 1) := by decide +kernel
theorem d_Mo_enter_68 : decode b_Mo_enter 68 = .ok (.iadd, 1) := by decide +kernel
theorem d_Mo_enter_69 : decode b_Mo_enter 69 = .ok (.iconst 0, 1) := by decide +kernel
theorem d_Mo_enter_70 : decode b_Mo_enter 70 = .ok (.iastore, 1) := by decide +kernel
theorem d_Mo_enter_71 : decode b_Mo_enter 71 = .ok (.iinc 3 1, 3) := by decide +kernel
theorem d_Mo_enter_74 : decode b_Mo_enter 74 = .ok (.goto (-22), 3) := by decide +kernel
theorem d_Mo_enter_77 : decode b_Mo_enter 77 = .ok (.aload_n 0, 1) := by decide +kernel
theorem d_Mo_enter_78 : decode b_Mo_enter 78 = .ok (.dup, 1) := by decide +kernel
theorem d_Mo_enter_79 : decode b_Mo_enter 79 = .ok (.getfield 226, 3) := by decide +kernel
theorem d_Mo_enter_82 : decode b_Mo_enter 82 = .ok (.iconst 1, 1) := by decide +kernel
theorem d_Mo_enter_83 : decode b_Mo_enter 83 = .ok (.iadd, 1) := by decide +kernel
theorem d_Mo_enter_84 : decode b_Mo_enter 84 = .ok (.putfield 226, 3) := by decide +kernel
theorem d_Mo_enter_87 : decode b_Mo_enter 87 = .ok (.return_, 1) := by decide +kernel
theorem d_Mo_call_0 : decode b_Mo_call 0 = .ok (.iload_n 2, 1) := by decide +kernel
theorem d_Mo_call_1 : decode b_Mo_call 1 = .ok (.bipush 16, 2) := by decide +kernel
theorem d_Mo_call_3 : decode b_Mo_call 3 = .ok (.if_icmp .ne 12, 3) := by decide +kernel
theorem d_Mo_call_6 : decode b_Mo_call 6 = .ok (.aload_n 0, 1) := by decide +kernel
theorem d_Mo_call_7 : decode b_Mo_call 7 = .ok (.getfield 25, 3) := by decide +kernel
theorem d_Mo_call_10 : decode b_Mo_call 10 = .ok (.iload_n 3, 1) := by decide +kernel
theorem d_Mo_call_11 : decode b_Mo_call 11 = .ok (.iaload, 1) := by decide +kernel
theorem d_Mo_call_12 : decode b_Mo_call 12 = .ok (.goto 4, 3) := by decide +kernel
theorem d_Mo_call_15 : decode b_Mo_call 15 = .ok (.iconst 2, 1) := by decide +kernel
theorem d_Mo_call_16 : decode b_Mo_call 16 = .ok (.istore 4, 2) := by decide +kernel
theorem d_Mo_call_18 : decode b_Mo_call 18 = .ok (.bipush 6, 2) := by decide +kernel
theorem d_Mo_call_20 : decode b_Mo_call 20 = .ok (.iload_n 1, 1) := by decide +kernel
theorem d_Mo_call_21 : decode b_Mo_call 21 = .ok (.imul, 1) := by decide +kernel
theorem d_Mo_call_22 : decode b_Mo_call 22 = .ok (.aload_n 0, 1) := by decide +kernel
theorem d_Mo_call_23 : decode b_Mo_call 23 = .ok (.getfield 77, 3) := by decide +kernel
theorem d_Mo_call_26 : decode b_Mo_call 26 = .ok (.iload_n 1, 1) := by decide +kernel
theorem d_Mo_call_27 : decode b_Mo_call 27 = .ok (.iaload, 1) := by decide +kernel
theorem d_Mo_call_28 : decode b_Mo_call 28 = .ok (.iadd, 1) := by decide +kernel
theorem d_Mo_call_29 : decode b_Mo_call 29 = .ok (.iload 4, 2) := by decide +kernel
theorem d_Mo_call_31 : decode b_Mo_call 31 = .ok (.isub, 1) := by decide +kernel
theorem d_Mo_call_32 : decode b_Mo_call 32 = .ok (.istore 5, 2) := by decide +kernel
theorem d_Mo_call_34 : decode b_Mo_call 34 = .ok (.iload_n 2, 1) := by decide +kernel
theorem d_Mo_call_35 : decode b_Mo_call 35 = .ok (.bipush 17, 2) := by decide +kernel
theorem d_Mo_call_37 : decode b_Mo_call 37 = .ok (.if_icmp .ne 17, 3) := by decide +kernel
theorem d_Mo_call_40 : decode b_Mo_call 40 = .ok (.aload_n 0, 1) := by decide +kernel
theorem d_Mo_call_41 : decode b_Mo_call 41 = .ok (.getfield 89, 3) := by decide +kernel
theorem d_Mo_call_44 : decode b_Mo_call 44 = .ok (.iload 5, 2) := by decide +kernel
theorem d_Mo_call_46 : decode b_Mo_call 46 = .ok (.iaload, 1) := by decide +kernel
theorem d_Mo_call_47 : decode b_Mo_call 47 = .ok (.ifCond .ge 7, 3) := by decide +kernel
theorem d_Mo_call_50 : decode b_Mo_call 50 = .ok (.iconst 1, 1) := by decide +kernel
theorem d_Mo_call_51 : decode b_Mo_call 51 = .ok (.goto 4, 3) := by decide +kernel
theorem d_Mo_call_54 : decode b_Mo_call 54 = .ok (.iconst 0, 1) := by decide +kernel
theorem d_Mo_call_55 : decode b_Mo_call 55 = .ok (.istore 6, 2) := by decide +kernel
theorem d_Mo_call_57 : decode b_Mo_call 57 = .ok (.iload 6, 2) := by decide +kernel
theorem d_Mo_call_59 : decode b_Mo_call 59 = .ok (.ifCond .ne 12, 3) := by decide +kernel
theorem d_Mo_call_62 : decode b_Mo_call 62 = .ok (.aload_n 0, 1) := by decide +kernel
theorem d_Mo_call_63 : decode b_Mo_call 63 = .ok (.getfield 226, 3) := by decide +kernel
theorem d_Mo_call_66 : decode b_Mo_call 66 = .ok (.bipush 10, 2) := by decide +kernel
theorem d_Mo_call_68 : decode b_Mo_call 68 = .ok (.if_icmp .ne 19, 3) := by decide +kernel
theorem d_Mo_call_71 : decode b_Mo_call 71 = .ok (.aload_n 0, 1) := by decide +kernel
theorem d_Mo_call_72 : decode b_Mo_call 72 = .ok (.iload 6, 2) := by decide +kernel
theorem d_Mo_call_74 : decode b_Mo_call 74 = .ok (.ifCond .eq 7, 3) := by decide +kernel
theorem d_Mo_call_77 : decode b_Mo_call 77 = .ok (.iconst (-1), 1) := by decide +kernel
theorem d_Mo_call_78 : decode b_Mo_call 78 = .ok (.goto 5, 3) := by decide +kernel
theorem d_Mo_call_81 : decode b_Mo_call 81 = .ok (.bipush (-5), 2) := by decide +kernel
theorem d_Mo_call_83 : decode b_Mo_call 83 = .ok (.invokevirtual 251, 3) := by decide +kernel
theorem d_Mo_call_86 : decode b_Mo_call 86 = .ok (.return_, 1) := by decide +kernel
theorem d_Mo_call_87 : decode b_Mo_call 87 = .ok (.iload_n 2, 1) := by decide +kernel
theorem d_Mo_call_88 : decode b_Mo_call 88 = .ok (.bipush 16, 2) := by decide +kernel
theorem d_Mo_call_90 : decode b_Mo_call 90 = .ok (.if_icmp .ne 7, 3) := by decide +kernel
theorem d_Mo_call_93 : decode b_Mo_call 93 = .ok (.iload_n 3, 1) := by decide +kernel
theorem d_Mo_call_94 : decode b_Mo_call 94 = .ok (.goto 20, 3) := by decide +kernel
theorem d_Mo_call_97 : decode b_Mo_call 97 = .ok (.aload_n 0, 1) := by decide +kernel
theorem d_Mo_call_98 : decode b_Mo_call 98 = .ok (.aload_n 0, 1) := by decide +kernel
theorem d_Mo_call_99 : decode b_Mo_call 99 = .ok (.getfield 92, 3) := by decide +kernel
theorem d_Mo_call_102 : decode b_Mo_call 102 = .ok (.aload_n 0, 1) := by decide +kernel
theorem d_Mo_call_103 : decode b_Mo_call 103 = .ok (.getfield 89, 3) := by decide +kernel
theorem d_Mo_call_106 : decode b_Mo_call 106 = .ok (.iload 5, 2) := by decide +kernel
theorem d_Mo_call_108 : decode b_Mo_call 108 = .ok (.iaload, 1) := by decide +kernel
theorem d_Mo_call_109 : decode b_Mo_call 109 = .ok (.iaload, 1) := by decide +kernel
theorem d_Mo_call_110 : decode b_Mo_call 110 = .ok (.iload_n 3, 1) := by decide +kernel
theorem d_Mo_call_111 : decode b_Mo_call 111 = .ok (.invokevirtual 177, 3) := by decide +kernel
theorem d_Mo_call_114 : decode b_Mo_call 114 = .ok (.istore 7, 2) := by decide +kernel
theorem d_Mo_call_116 : decode b_Mo_call 116 = .ok (.aload_n 0, 1) := by decide +kernel
theorem d_Mo_call_117 : decode b_Mo_call 117 = .ok (.iload 7, 2) := by decide +kernel
theorem d_Mo_call_119 : decode b_Mo_call 119 = .ok (.iconst 0, 1) := by decide +kernel
theorem d_Mo_call_120 : decode b_Mo_call 120 = .ok (.invokevirtual 247, 3) := by decide +kernel
theorem d_Mo_call_123 : decode b_Mo_call 123 = .ok (.iconst 0, 1) := by decide +kernel
theorem d_Mo_call_124 : decode b_Mo_call 124 = .ok (.istore 8, 2) := by decide +kernel
theorem d_Mo_call_126 : decode b_Mo_call 126 = .ok (.iload 8, 2) := by decide +kernel
theorem d_Mo_call_128 : decode b_Mo_call 128 = .ok (.iload 4, 2) := by decide +kernel
theorem d_Mo_call_130 : decode b_Mo_call 130 = .ok (.if_icmp .ge 32, 3) := by decide +kernel
theorem d_Mo_call_133 : decode b_Mo_call 133 = .ok (.aload_n 0, 1) := by decide +kernel
theorem d_Mo_call_134 : decode b_Mo_call 134 = .ok (.getfield 86, 3) := by decide +kernel
theorem d_Mo_call_137 : decode b_Mo_call 137 = .ok (.iconst 4, 1) := by decide +kernel
theorem d_Mo_call_138 : decode b_Mo_call 138 = .ok (.iload_n 1, 1) := by decide +kernel
theorem d_Mo_call_139 : decode b_Mo_call 139 = .ok (.imul, 1) := by decide +kernel
theorem d_Mo_call_140 : decode b_Mo_call 140 = .ok (.iconst 4, 1) := by decide +kernel
theorem d_Mo_call_141 : decode b_Mo_call 141 = .ok (.iadd, 1) := by decide +kernel
theorem d_Mo_call_142 : decode b_Mo_call 142 = .ok (.iload 8, 2) := by decide +kernel
theorem d_Mo_call_144 : decode b_Mo_call 144 = .ok (.iadd, 1) := by decide +kernel
theorem d_Mo_call_145 : decode b_Mo_call 145 = .ok (.aload_n 0, 1) := by decide +kernel
theorem d_Mo_call_146 : decode b_Mo_call 146 = .ok (.getfield 89, 3) := by decide +kernel
theorem d_Mo_call_149 : decode b_Mo_call 149 = .ok (.iload 5, 2) := by decide +kernel
theorem d_Mo_call_151 : decode b_Mo_call 151 = .ok (.iload 8, 2) := by decide +kernel
theorem d_Mo_call_153 : decode b_Mo_call 153 = .ok (.iadd, 1) := by decide +kernel
theorem d_Mo_call_154 : decode b_Mo_call 154 = .ok (.iaload, 1) := by decide +kernel
theorem d_Mo_call_155 : decode b_Mo_call 155 = .ok (.iastore, 1) := by decide +kernel
theorem d_Mo_call_156 : decode b_Mo_call 156 = .ok (.iinc 8 1, 3) := by decide +kernel
theorem d_Mo_call_159 : decode b_Mo_call 159 = .ok (.goto (-33), 3) := by decide +kernel
theorem d_Mo_call_162 : decode b_Mo_call 162 = .ok (.return_, 1) := by decide +kernel
theorem d_Mo_pop_0 : decode b_Mo_pop 0 = .ok (.aload_n 0, 1) := by decide +kernel
theorem d_Mo_pop_1 : decode b_Mo_pop 1 = .ok (.getfield 226, 3) := by decide +kernel
theorem d_Mo_pop_4 : decode b_Mo_pop 4 = .ok (.iconst 1, 1) := by decide +kernel
theorem d_Mo_pop_5 : decode b_Mo_pop 5 = .ok (.isub, 1) := by decide +kernel
theorem d_Mo_pop_6 : decode b_Mo_pop 6 = .ok (.istore_n 1, 1) := by decide +kernel
theorem d_Mo_pop_7 : decode b_Mo_pop 7 = .ok (.aload_n 0, 1) := by decide +kernel
theorem d_Mo_pop_8 : decode b_Mo_pop 8 = .ok (.getfield 77, 3) := by decide +kernel
theorem d_Mo_pop_11 : decode b_Mo_pop 11 = .ok (.iload_n 1, 1) := by decide +kernel
theorem d_Mo_pop_12 : decode b_Mo_pop 12 = .ok (.dup2, 1) := by decide +kernel
theorem d_Mo_pop_13 : decode b_Mo_pop 13 = .ok (.iaload, 1) := by decide +kernel
theorem d_Mo_pop_14 : decode b_Mo_pop 14 = .ok (.iconst 1, 1) := by decide +kernel
theorem d_Mo_pop_15 : decode b_Mo_pop 15 = .ok (.isub, 1) := by decide +kernel
theorem d_Mo_pop_16 : decode b_Mo_pop 16 = .ok (.iastore, 1) := by decide +kernel
theorem d_Mo_pop_17 : decode b_Mo_pop 17 = .ok (.aload_n 0, 1) := by decide +kernel
theorem d_Mo_pop_18 : decode b_Mo_pop 18 = .ok (.getfield 89, 3) := by decide +kernel
theorem d_Mo_pop_21 : decode b_Mo_pop 21 = .ok (.bipush 6, 2) := by decide +kernel
theorem d_Mo_pop_23 : decode b_Mo_pop 23 = .ok (.iload_n 1, 1) := by decide +kernel
theorem d_Mo_pop_24 : decode b_Mo_pop 24 = .ok (.imul, 1) := by decide +kernel
theorem d_Mo_pop_25 : decode b_Mo_pop 25 = .ok (.aload_n 0, 1) := by decide +kernel
theorem d_Mo_pop_26 : decode b_Mo_pop 26 = .ok (.getfield 77, 3) := by decide +kernel
theorem d_Mo_pop_29 : decode b_Mo_pop 29 = .ok (.iload_n 1, 1) := by decide +kernel
theorem d_Mo_pop_30 : decode b_Mo_pop 30 = .ok (.iaload, 1) := by decide +kernel
theorem d_Mo_pop_31 : decode b_Mo_pop 31 = .ok (.iadd, 1) := by decide +kernel
theorem d_Mo_pop_32 : decode b_Mo_pop 32 = .ok (.iaload, 1) := by decide +kernel
theorem d_Mo_pop_33 : decode b_Mo_pop 33 = .ok (.ireturn, 1) := by decide +kernel
theorem d_Mo_leave_0 : decode b_Mo_leave 0 = .ok (.aload_n 0, 1) := by decide +kernel
theorem d_Mo_leave_1 : decode b_Mo_leave 1 = .ok (.dup, 1) := by decide +kernel
theorem d_Mo_leave_2 : decode b_Mo_leave 2 = .ok (.getfield 226, 3) := by decide +kernel
theorem d_Mo_leave_5 : decode b_Mo_leave 5 = .ok (.iconst 1, 1) := by decide +kernel
theorem d_Mo_leave_6 : decode b_Mo_leave 6 = .ok (.isub, 1) := by decide +kernel
theorem d_Mo_leave_7 : decode b_Mo_leave 7 = .ok (.putfield 226, 3) := by decide +kernel
theorem d_Mo_leave_10 : decode b_Mo_leave 10 = .ok (.aload_n 0, 1) := by decide +kernel
theorem d_Mo_leave_11 : decode b_Mo_leave 11 = .ok (.getfield 226, 3) := by decide +kernel
theorem d_Mo_leave_14 : decode b_Mo_leave 14 = .ok (.ifCond .ne 36, 3) := by decide +kernel
theorem d_Mo_leave_17 : decode b_Mo_leave 17 = .ok (.aload_n 0, 1) := by decide +kernel
theorem d_Mo_leave_18 : decode b_Mo_leave 18 = .ok (.aload_n 0, 1) := by decide +kernel
theorem d_Mo_leave_19 : decode b_Mo_leave 19 = .ok (.getfield 211, 3) := by decide +kernel
theorem d_Mo_leave_22 : decode b_Mo_leave 22 = .ok (.ifCond .eq 7, 3) := by decide +kernel
theorem d_Mo_leave_25 : decode b_Mo_leave 25 = .ok (.iconst 0, 1) := by decide +kernel
theorem d_Mo_leave_26 : decode b_Mo_leave 26 = .ok (.goto 4, 3) := by decide +kernel
theorem d_Mo_leave_29 : decode b_Mo_leave 29 = .ok (.iconst (-1), 1) := by decide +kernel
theorem d_Mo_leave_30 : decode b_Mo_leave 30 = .ok (.putfield 214, 3) := by decide +kernel
theorem d_Mo_leave_33 : decode b_Mo_leave 33 = .ok (.aload_n 0, 1) := by decide +kernel
theorem d_Mo_leave_34 : decode b_Mo_leave 34 = .ok (.aload_n 0, 1) := by decide +kernel
theorem d_Mo_leave_35 : decode b_Mo_leave 35 = .ok (.getfield 211, 3) := by decide +kernel
theorem d_Mo_leave_38 : decode b_Mo_leave 38 = .ok (.ifCond .eq 7, 3) := by decide +kernel
theorem d_Mo_leave_41 : decode b_Mo_leave 41 = .ok (.iload_n 1, 1) := by decide +kernel
theorem d_Mo_leave_42 : decode b_Mo_leave 42 = .ok (.goto 4, 3) := by decide +kernel
theorem d_Mo_leave_45 : decode b_Mo_leave 45 = .ok (.iconst 0, 1) := by decide +kernel
theorem d_Mo_leave_46 : decode b_Mo_leave 46 = .ok (.putfield 217, 3) := by decide +kernel
theorem d_Mo_leave_49 : decode b_Mo_leave 49 = .ok (.return_, 1) := by decide +kernel
theorem d_Mo_leave_50 : decode b_Mo_leave 50 = .ok (.aload_n 0, 1) := by decide +kernel
theorem d_Mo_leave_51 : decode b_Mo_leave 51 = .ok (.getfield 226, 3) := by decide +kernel
theorem d_Mo_leave_54 : decode b_Mo_leave 54 = .ok (.iconst 1, 1) := by decide +kernel
theorem d_Mo_leave_55 : decode b_Mo_leave 55 = .ok (.isub, 1) := by decide +kernel
theorem d_Mo_leave_56 : decode b_Mo_leave 56 = .ok (.istore_n 2, 1) := by decide +kernel
theorem d_Mo_leave_57 : decode b_Mo_leave 57 = .ok (.aload_n 0, 1) := by decide +kernel
theorem d_Mo_leave_58 : decode b_Mo_leave 58 = .ok (.getfield 80, 3) := by decide +kernel
theorem d_Mo_leave_61 : decode b_Mo_leave 61 = .ok (.aload_n 0, 1) := by decide +kernel
theorem d_Mo_leave_62 : decode b_Mo_leave 62 = .ok (.getfield 226, 3) := by decide +kernel
theorem d_Mo_leave_65 : decode b_Mo_leave 65 = .ok (.baload, 1) := by decide +kernel
theorem d_Mo_leave_66 : decode b_Mo_leave 66 = .ok (.ifCond .eq 4, 3) := by decide +kernel
theorem d_Mo_leave_69 : decode b_Mo_leave 69 = .ok (.return_, 1) := by decide +kernel
theorem d_Mo_leave_70 : decode b_Mo_leave 70 = .ok (.bipush 20, 2) := by decide +kernel
theorem d_Mo_leave_72 : decode b_Mo_leave 72 = .ok (.aload_n 0, 1) := by decide +kernel
theorem d_Mo_leave_73 : decode b_Mo_leave 73 = .ok (.getfield 71, 3) := by decide +kernel
theorem d_Mo_leave_76 : decode b_Mo_leave 76 = .ok (.iload_n 2, 1) := by decide +kernel
theorem d_Mo_leave_77 : decode b_Mo_leave 77 = .ok (.iaload, 1) := by decide +kernel
theorem d_Mo_leave_78 : decode b_Mo_leave 78 = .ok (.imul, 1) := by decide +kernel
theorem d_Mo_leave_79 : decode b_Mo_leave 79 = .ok (.aload_n 0, 1) := by decide +kernel
theorem d_Mo_leave_80 : decode b_Mo_leave 80 = .ok (.getfield 74, 3) := by decide +kernel
theorem d_Mo_leave_83 : decode b_Mo_leave 83 = .ok (.iload_n 2, 1) := by decide +kernel
theorem d_Mo_leave_84 : decode b_Mo_leave 84 = .ok (.iaload, 1) := by decide +kernel
theorem d_Mo_leave_85 : decode b_Mo_leave 85 = .ok (.iadd, 1) := by decide +kernel
theorem d_Mo_leave_86 : decode b_Mo_leave 86 = .ok (.istore_n 3, 1) := by decide +kernel
theorem d_Mo_leave_87 : decode b_Mo_leave 87 = .ok (.aload_n 0, 1) := by decide +kernel
theorem d_Mo_leave_88 : decode b_Mo_leave 88 = .ok (.getfield 77, 3) := by decide +kernel
theorem d_Mo_leave_91 : decode b_Mo_leave 91 = .ok (.iload_n 2, 1) := by decide +kernel
theorem d_Mo_leave_92 : decode b_Mo_leave 92 = .ok (.dup2, 1) := by decide +kernel
theorem d_Mo_leave_93 : decode b_Mo_leave 93 = .ok (.iaload, 1) := by decide +kernel
theorem d_Mo_leave_94 : decode b_Mo_leave 94 = .ok (.aload_n 0, 1) := by decide +kernel
theorem d_Mo_leave_95 : decode b_Mo_leave 95 = .ok (.getfield 31, 3) := by decide +kernel
theorem d_Mo_leave_98 : decode b_Mo_leave 98 = .ok (.iload_n 3, 1) := by decide +kernel
theorem d_Mo_leave_99 : decode b_Mo_leave 99 = .ok (.iaload, 1) := by decide +kernel
theorem d_Mo_leave_100 : decode b_Mo_leave 100 = .ok (.bipush 16, 2) := by decide +kernel
theorem d_Mo_leave_102 : decode b_Mo_leave 102 = .ok (.if_icmp .ne 17, 3) := by decide +kernel
theorem d_Mo_leave_105 : decode b_Mo_leave 105 = .ok (.aload_n 0, 1) := by decide +kernel
theorem d_Mo_leave_106 : decode b_Mo_leave 106 = .ok (.getfield 25, 3) := by decide +kernel
theorem d_Mo_leave_109 : decode b_Mo_leave 109 = .ok (.aload_n 0, 1) := by decide +kernel
theorem d_Mo_leave_110 : decode b_Mo_leave 110 = .ok (.getfield 34, 3) := by decide +kernel
theorem d_Mo_leave_113 : decode b_Mo_leave 113 = .ok (.iload_n 3, 1) := by decide +kernel
theorem d_Mo_leave_114 : decode b_Mo_leave 114 = .ok (.iaload, 1) := by decide +kernel
theorem d_Mo_leave_115 : decode b_Mo_leave 115 = .ok (.iaload, 1) := by decide +kernel
theorem d_Mo_leave_116 : decode b_Mo_leave 116 = .ok (.goto 4, 3) := by decide +kernel
theorem d_Mo_leave_119 : decode b_Mo_leave 119 = .ok (.iconst 2, 1) := by decide +kernel
theorem d_Mo_leave_120 : decode b_Mo_leave 120 = .ok (.isub, 1) := by decide +kernel
theorem d_Mo_leave_121 : decode b_Mo_leave 121 = .ok (.iastore, 1) := by decide +kernel
theorem d_Mo_leave_122 : decode b_Mo_leave 122 = .ok (.aload_n 0, 1) := by decide +kernel
theorem d_Mo_leave_123 : decode b_Mo_leave 123 = .ok (.iload_n 1, 1) := by decide +kernel
theorem d_Mo_leave_124 : decode b_Mo_leave 124 = .ok (.invokevirtual 269, 3) := by decide +kernel
theorem d_Mo_leave_127 : decode b_Mo_leave 127 = .ok (.aload_n 0, 1) := by decide +kernel
theorem d_Mo_leave_128 : decode b_Mo_leave 128 = .ok (.getfield 74, 3) := by decide +kernel
theorem d_Mo_leave_131 : decode b_Mo_leave 131 = .ok (.iload_n 2, 1) := by decide +kernel
theorem d_Mo_leave_132 : decode b_Mo_leave 132 = .ok (.dup2, 1) := by decide +kernel
theorem d_Mo_leave_133 : decode b_Mo_leave 133 = .ok (.iaload, 1) := by decide +kernel
theorem d_Mo_leave_134 : decode b_Mo_leave 134 = .ok (.iconst 1, 1) := by decide +kernel
theorem d_Mo_leave_135 : decode b_Mo_leave 135 = .ok (.iadd, 1) := by decide +kernel
theorem d_Mo_leave_136 : decode b_Mo_leave 136 = .ok (.iastore, 1) := by decide +kernel
theorem d_Mo_leave_137 : decode b_Mo_leave 137 = .ok (.return_, 1) := by decide +kernel
theorem d_Mo_push_0 : decode b_Mo_push 0 = .ok (.aload_n 0, 1) := by decide +kernel
theorem d_Mo_push_1 : decode b_Mo_push 1 = .ok (.getfield 226, 3) := by decide +kernel
theorem d_Mo_push_4 : decode b_Mo_push 4 = .ok (.iconst 1, 1) := by decide +kernel
theorem d_Mo_push_5 : decode b_Mo_push 5 = .ok (.isub, 1) := by decide +kernel
theorem d_Mo_push_6 : decode b_Mo_push 6 = .ok (.istore_n 2, 1) := by decide +kernel
theorem d_Mo_push_7 : decode b_Mo_push 7 = .ok (.aload_n 0, 1) := by decide +kernel
theorem d_Mo_push_8 : decode b_Mo_push 8 = .ok (.getfield 89, 3) := by decide +kernel
theorem d_Mo_push_11 : decode b_Mo_push 11 = .ok (.bipush 6, 2) := by decide +kernel
theorem d_Mo_push_13 : decode b_Mo_push 13 = .ok (.iload_n 2, 1) := by decide +kernel
theorem d_Mo_push_14 : decode b_Mo_push 14 = .ok (.imul, 1) := by decide +kernel
theorem d_Mo_push_15 : decode b_Mo_push 15 = .ok (.aload_n 0, 1) := by decide +kernel
theorem d_Mo_push_16 : decode b_Mo_push 16 = .ok (.getfield 77, 3) := by decide +kernel
theorem d_Mo_push_19 : decode b_Mo_push 19 = .ok (.iload_n 2, 1) := by decide +kernel
theorem d_Mo_push_20 : decode b_Mo_push 20 = .ok (.iaload, 1) := by decide +kernel
theorem d_Mo_push_21 : decode b_Mo_push 21 = .ok (.iadd, 1) := by decide +kernel
theorem d_Mo_push_22 : decode b_Mo_push 22 = .ok (.iload_n 1, 1) := by decide +kernel
theorem d_Mo_push_23 : decode b_Mo_push 23 = .ok (.iastore, 1) := by decide +kernel
theorem d_Mo_push_24 : decode b_Mo_push 24 = .ok (.aload_n 0, 1) := by decide +kernel
theorem d_Mo_push_25 : decode b_Mo_push 25 = .ok (.getfield 77, 3) := by decide +kernel
theorem d_Mo_push_28 : decode b_Mo_push 28 = .ok (.iload_n 2, 1) := by decide +kernel
theorem d_Mo_push_29 : decode b_Mo_push 29 = .ok (.dup2, 1) := by decide +kernel
theorem d_Mo_push_30 : decode b_Mo_push 30 = .ok (.iaload, 1) := by decide +kernel
theorem d_Mo_push_31 : decode b_Mo_push 31 = .ok (.iconst 1, 1) := by decide +kernel
theorem d_Mo_push_32 : decode b_Mo_push 32 = .ok (.iadd, 1) := by decide +kernel
theorem d_Mo_push_33 : decode b_Mo_push 33 = .ok (.iastore, 1) := by decide +kernel
theorem d_Mo_push_34 : decode b_Mo_push 34 = .ok (.return_, 1) := by decide +kernel
theorem d_Mo_plain_0 : decode b_Mo_plain 0 = .ok (.aload_n 0, 1) := by decide +kernel
theorem d_Mo_plain_1 : decode b_Mo_plain 1 = .ok (.getfield 74, 3) := by decide +kernel
theorem d_Mo_plain_4 : decode b_Mo_plain 4 = .ok (.iload_n 1, 1) := by decide +kernel
theorem d_Mo_plain_5 : decode b_Mo_plain 5 = .ok (.iaload, 1) := by decide +kernel
theorem d_Mo_plain_6 : decode b_Mo_plain 6 = .ok (.iconst 1, 1) := by decide +kernel
theorem d_Mo_plain_7 : decode b_Mo_plain 7 = .ok (.iadd, 1) := by decide +kernel
theorem d_Mo_plain_8 : decode b_Mo_plain 8 = .ok (.istore 4, 2) := by decide +kernel
theorem d_Mo_plain_10 : decode b_Mo_plain 10 = .ok (.iload_n 2, 1) := by decide +kernel
theorem d_Mo_plain_11 : decode b_Mo_plain 11 = .ok (.iconst 3, 1) := by decide +kernel
theorem d_Mo_plain_12 : decode b_Mo_plain 12 = .ok (.if_icmp .lt 28, 3) := by decide +kernel
theorem d_Mo_plain_15 : decode b_Mo_plain 15 = .ok (.iload_n 2, 1) := by decide +kernel
theorem d_Mo_plain_16 : decode b_Mo_plain 16 = .ok (.bipush 9, 2) := by decide +kernel
theorem d_Mo_plain_18 : decode b_Mo_plain 18 = .ok (.if_icmp .eq 22, 3) := by decide +kernel
theorem d_Mo_plain_21 : decode b_Mo_plain 21 = .ok (.iload_n 2, 1) := by decide +kernel
theorem d_Mo_plain_22 : decode b_Mo_plain 22 = .ok (.bipush 11, 2) := by decide +kernel
theorem d_Mo_plain_24 : decode b_Mo_plain 24 = .ok (.if_icmp .eq 16, 3) := by decide +kernel
theorem d_Mo_plain_27 : decode b_Mo_plain 27 = .ok (.iload_n 2, 1) := by decide +kernel
theorem d_Mo_plain_28 : decode b_Mo_plain 28 = .ok (.bipush 14, 2) := by decide +kernel
theorem d_Mo_plain_30 : decode b_Mo_plain 30 = .ok (.if_icmp .eq 10, 3) := by decide +kernel
theorem d_Mo_plain_33 : decode b_Mo_plain 33 = .ok (.aload_n 0, 1) := by decide +kernel
theorem d_Mo_plain_34 : decode b_Mo_plain 34 = .ok (.invokevirtual 258, 3) := by decide +kernel
theorem d_Mo_plain_37 : decode b_Mo_plain 37 = .ok (.goto 4, 3) := by decide +kernel
theorem d_Mo_plain_40 : decode b_Mo_plain 40 = .ok (.iconst 0, 1) := by decide +kernel
theorem d_Mo_plain_41 : decode b_Mo_plain 41 = .ok (.istore 5, 2) := by decide +kernel
theorem d_Mo_plain_43 : decode b_Mo_plain 43 = .ok (.iload_n 2, 1) := by decide +kernel
theorem d_Mo_plain_44 : decode b_Mo_plain 44 = .ok (.iconst 5, 1) := by decide +kernel
theorem d_Mo_plain_45 : decode b_Mo_plain 45 = .ok (.if_icmp .lt 9, 3) := by decide +kernel
theorem d_Mo_plain_48 : decode b_Mo_plain 48 = .ok (.iload_n 2, 1) := by decide +kernel
theorem d_Mo_plain_49 : decode b_Mo_plain 49 = .ok (.bipush 8, 2) := by decide +kernel
theorem d_Mo_plain_51 : decode b_Mo_plain 51 = .ok (.if_icmp .le 9, 3) := by decide +kernel
theorem d_Mo_plain_54 : decode b_Mo_plain 54 = .ok (.iload_n 2, 1) := by decide +kernel
theorem d_Mo_plain_55 : decode b_Mo_plain 55 = .ok (.bipush 13, 2) := by decide +kernel
theorem d_Mo_plain_57 : decode b_Mo_plain 57 = .ok (.if_icmp .ne 10, 3) := by decide +kernel
theorem d_Mo_plain_60 : decode b_Mo_plain 60 = .ok (.aload_n 0, 1) := by decide +kernel
theorem d_Mo_plain_61 : decode b_Mo_plain 61 = .ok (.invokevirtual 258, 3) := by decide +kernel
theorem d_Mo_plain_64 : decode b_Mo_plain 64 = .ok (.goto 4, 3) := by decide +kernel
theorem d_Mo_plain_67 : decode b_Mo_plain 67 = .ok (.iconst 0, 1) := by decide +kernel
theorem d_Mo_plain_68 : decode b_Mo_plain 68 = .ok (.istore 6, 2) := by decide +kernel
theorem d_Mo_plain_70 : decode b_Mo_plain 70 = .ok (.iload_n 2, 1) := by decide +kernel
theorem d_Mo_plain_71 : decode b_Mo_plain 71 = .ok (.bipush 8, 2) := by decide +kernel
theorem d_Mo_plain_73 : decode b_Mo_plain 73 = .ok (.if_icmp .ne 11, 3) := by decide +kernel
theorem d_Mo_plain_76 : decode b_Mo_plain 76 = .ok (.iload 5, 2) := by decide +kernel
theorem d_Mo_plain_78 : decode b_Mo_plain 78 = .ok (.ifCond .ne 6, 3) := by decide +kernel
theorem d_Mo_plain_81 : decode b_Mo_plain 81 = .ok (.bipush (-2), 2) := by decide +kernel
theorem d_Mo_plain_83 : decode b_Mo_plain 83 = .ok (.ireturn, 1) := by decide +kernel
theorem d_Mo_plain_84 : decode b_Mo_plain 84 = .ok (.iload_n 2, 1) := by decide +kernel
theorem d_Mo_plain_85 : decode b_Mo_plain 85 = .ok (.bipush 12, 2) := by decide +kernel
theorem d_Mo_plain_87 : decode b_Mo_plain 87 = .ok (.if_icmp .ne 8, 3) := by decide +kernel
theorem d_Mo_plain_90 : decode b_Mo_plain 90 = .ok (.iload 5, 2) := by decide +kernel
theorem d_Mo_plain_92 : decode b_Mo_plain 92 = .ok (.ifCond .lt 14, 3) := by decide +kernel
theorem d_Mo_plain_95 : decode b_Mo_plain 95 = .ok (.iload_n 2, 1) := by decide +kernel
theorem d_Mo_plain_96 : decode b_Mo_plain 96 = .ok (.bipush 13, 2) := by decide +kernel
theorem d_Mo_plain_98 : decode b_Mo_plain 98 = .ok (.if_icmp .ne 10, 3) := by decide +kernel
theorem d_Mo_plain_101 : decode b_Mo_plain 101 = .ok (.iload 6, 2) := by decide +kernel
theorem d_Mo_plain_103 : decode b_Mo_plain 103 = .ok (.ifCond .ge 5, 3) := by decide +kernel
theorem d_Mo_plain_106 : decode b_Mo_plain 106 = .ok (.iconst (-1), 1) := by decide +kernel
theorem d_Mo_plain_107 : decode b_Mo_plain 107 = .ok (.ireturn, 1) := by decide +kernel
theorem d_Mo_plain_108 : decode b_Mo_plain 108 = .ok (.iload_n 2, 1) := by decide +kernel
theorem d_Mo_plain_109 : decode b_Mo_plain 109 = .ok (.bipush 11, 2) := by decide +kernel
theorem d_Mo_plain_111 : decode b_Mo_plain 111 = .ok (.if_icmp .ne 15, 3) := by decide +kernel
theorem d_Mo_plain_114 : decode b_Mo_plain 114 = .ok (.aload_n 0, 1) := by decide +kernel
theorem d_Mo_plain_115 : decode b_Mo_plain 115 = .ok (.getfield 229, 3) := by decide +kernel
theorem d_Mo_plain_118 : decode b_Mo_plain 118 = .ok (.bipush 16, 2) := by decide +kernel
theorem d_Mo_plain_120 : decode b_Mo_plain 120 = .ok (.if_icmp .ne 6, 3) := by decide +kernel
theorem d_Mo_plain_123 : decode b_Mo_plain 123 = .ok (.bipush (-4), 2) := by decide +kernel
theorem d_Mo_plain_125 : decode b_Mo_plain 125 = .ok (.ireturn, 1) := by decide +kernel
theorem d_Mo_plain_126 : decode b_Mo_plain 126 = .ok (.iload_n 2, 1) := by decide +kernel
theorem d_Mo_plain_127 : decode b_Mo_plain 127 = .ok (.bipush 18, 2) := by decide +kernel
theorem d_Mo_plain_129 : decode b_Mo_plain 129 = .ok (.if_icmp .ne 26, 3) := by decide +kernel
theorem d_Mo_plain_132 : decode b_Mo_plain 132 = .ok (.iload 5, 2) := by decide +kernel
theorem d_Mo_plain_134 : decode b_Mo_plain 134 = .ok (.ifCond .lt 21, 3) := by decide +kernel
theorem d_Mo_plain_137 : decode b_Mo_plain 137 = .ok (.aload_n 0, 1) := by decide +kernel
theorem d_Mo_plain_138 : decode b_Mo_plain 138 = .ok (.aload_n 0, 1) := by decide +kernel
theorem d_Mo_plain_139 : decode b_Mo_plain 139 = .ok (.getfield 92, 3) := by decide +kernel
theorem d_Mo_plain_142 : decode b_Mo_plain 142 = .ok (.iload 5, 2) := by decide +kernel
theorem d_Mo_plain_144 : decode b_Mo_plain 144 = .ok (.iaload, 1) := by decide +kernel
theorem d_Mo_plain_145 : decode b_Mo_plain 145 = .ok (.iload_n 3, 1) := by decide +kernel
theorem d_Mo_plain_146 : decode b_Mo_plain 146 = .ok (.invokevirtual 142, 3) := by decide +kernel
theorem d_Mo_plain_149 : decode b_Mo_plain 149 = .ok (.ifCond .ne 6, 3) := by decide +kernel
theorem d_Mo_plain_152 : decode b_Mo_plain 152 = .ok (.bipush (-3), 2) := by decide +kernel
theorem d_Mo_plain_154 : decode b_Mo_plain 154 = .ok (.ireturn, 1) := by decide +kernel
theorem d_Mo_plain_155 : decode b_Mo_plain 155 = .ok (.iload_n 2, 1) := by decide +kernel
theorem d_Mo_plain_156 : decode b_Mo_plain 156 = .ok (.ifCond .ne 11, 3) := by decide +kernel
theorem d_Mo_plain_159 : decode b_Mo_plain 159 = .ok (.aload_n 0, 1) := by decide +kernel
theorem d_Mo_plain_160 : decode b_Mo_plain 160 = .ok (.iload_n 3, 1) := by decide +kernel
theorem d_Mo_plain_161 : decode b_Mo_plain 161 = .ok (.invokevirtual 269, 3) := by decide +kernel
theorem d_Mo_plain_164 : decode b_Mo_plain 164 = .ok (.goto 315, 3) := by decide +kernel
theorem d_Mo_plain_167 : decode b_Mo_plain 167 = .ok (.iload_n 2, 1) := by decide +kernel
theorem d_Mo_plain_168 : decode b_Mo_plain 168 = .ok (.iconst 1, 1) := by decide +kernel
theorem d_Mo_plain_169 : decode b_Mo_plain 169 = .ok (.if_icmp .ne 11, 3) := by decide +kernel
theorem d_Mo_plain_172 : decode b_Mo_plain 172 = .ok (.aload_n 0, 1) := by decide +kernel
theorem d_Mo_plain_173 : decode b_Mo_plain 173 = .ok (.iconst (-1), 1) := by decide +kernel
theorem d_Mo_plain_174 : decode b_Mo_plain 174 = .ok (.invokevirtual 269, 3) := by decide +kernel
theorem d_Mo_plain_177 : decode b_Mo_plain 177 = .ok (.goto 302, 3) := by decide +kernel
theorem d_Mo_plain_180 : decode b_Mo_plain 180 = .ok (.iload_n 2, 1) := by decide +kernel
theorem d_Mo_plain_181 : decode b_Mo_plain 181 = .ok (.iconst 2, 1) := by decide +kernel
theorem d_Mo_plain_182 : decode b_Mo_plain 182 = .ok (.if_icmp .ne 20, 3) := by decide +kernel
theorem d_Mo_plain_185 : decode b_Mo_plain 185 = .ok (.aload_n 0, 1) := by decide +kernel
theorem d_Mo_plain_186 : decode b_Mo_plain 186 = .ok (.aload_n 0, 1) := by decide +kernel
theorem d_Mo_plain_187 : decode b_Mo_plain 187 = .ok (.getfield 86, 3) := by decide +kernel
theorem d_Mo_plain_190 : decode b_Mo_plain 190 = .ok (.iconst 4, 1) := by decide +kernel
theorem d_Mo_plain_191 : decode b_Mo_plain 191 = .ok (.iload_n 1, 1) := by decide +kernel
theorem d_Mo_plain_192 : decode b_Mo_plain 192 = .ok (.imul, 1) := by decide +kernel
theorem d_Mo_plain_193 : decode b_Mo_plain 193 = .ok (.iload_n 3, 1) := by decide +kernel
theorem d_Mo_plain_194 : decode b_Mo_plain 194 = .ok (.iadd, 1) := by decide +kernel
theorem d_Mo_plain_195 : decode b_Mo_plain 195 = .ok (.iaload, 1) := by decide +kernel
theorem d_Mo_plain_196 : decode b_Mo_plain 196 = .ok (.invokevirtual 269, 3) := by decide +kernel
theorem d_Mo_plain_199 : decode b_Mo_plain 199 = .ok (.goto 280, 3) := by decide +kernel
theorem d_Mo_plain_202 : decode b_Mo_plain 202 = .ok (.iload_n 2, 1) := by decide +kernel
theorem d_Mo_plain_203 : decode b_Mo_plain 203 = .ok (.iconst 3, 1) := by decide +kernel
theorem d_Mo_plain_204 : decode b_Mo_plain 204 = .ok (.if_icmp .ne 18, 3) := by decide +kernel
theorem d_Mo_plain_207 : decode b_Mo_plain 207 = .ok (.aload_n 0, 1) := by decide +kernel
theorem d_Mo_plain_208 : decode b_Mo_plain 208 = .ok (.getfield 86, 3) := by decide +kernel
theorem d_Mo_plain_211 : decode b_Mo_plain 211 = .ok (.iconst 4, 1) := by decide +kernel
theorem d_Mo_plain_212 : decode b_Mo_plain 212 = .ok (.iload_n 1, 1) := by decide +kernel
theorem d_Mo_plain_213 : decode b_Mo_plain 213 = .ok (.imul, 1) := by decide +kernel
theorem d_Mo_plain_214 : decode b_Mo_plain 214 = .ok (.iload_n 3, 1) := by decide +kernel
theorem d_Mo_plain_215 : decode b_Mo_plain 215 = .ok (.iadd, 1) := by decide +kernel
theorem d_Mo_plain_216 : decode b_Mo_plain 216 = .ok (.iload 5, 2) := by decide +kernel
theorem d_Mo_plain_218 : decode b_Mo_plain 218 = .ok (.iastore, 1) := by decide +kernel
theorem d_Mo_plain_219 : decode b_Mo_plain 219 = .ok (.goto 260, 3) := by decide +kernel
theorem d_Mo_plain_222 : decode b_Mo_plain 222 = .ok (.iload_n 2, 1) := by decide +kernel
theorem d_Mo_plain_223 : decode b_Mo_plain 223 = .ok (.iconst 5, 1) := by decide +kernel
theorem d_Mo_plain_224 : decode b_Mo_plain 224 = .ok (.if_icmp .ne 15, 3) := by decide +kernel
theorem d_Mo_plain_227 : decode b_Mo_plain 227 = .ok (.aload_n 0, 1) := by decide +kernel
theorem d_Mo_plain_228 : decode b_Mo_plain 228 = .ok (.iload 6, 2) := by decide +kernel
theorem d_Mo_plain_230 : decode b_Mo_plain 230 = .ok (.iload 5, 2) := by decide +kernel
theorem d_Mo_plain_232 : decode b_Mo_plain 232 = .ok (.iadd, 1) := by decide +kernel
theorem d_Mo_plain_233 : decode b_Mo_plain 233 = .ok (.invokevirtual 269, 3) := by decide +kernel
theorem d_Mo_plain_236 : decode b_Mo_plain 236 = .ok (.goto 243, 3) := by decide +kernel
theorem d_Mo_plain_239 : decode b_Mo_plain 239 = .ok (.iload_n 2, 1) := by decide +kernel
theorem d_Mo_plain_240 : decode b_Mo_plain 240 = .ok (.bipush 6, 2) := by decide +kernel
theorem d_Mo_plain_242 : decode b_Mo_plain 242 = .ok (.if_icmp .ne 15, 3) := by decide +kernel
theorem d_Mo_plain_245 : decode b_Mo_plain 245 = .ok (.aload_n 0, 1) := by decide +kernel
theorem d_Mo_plain_246 : decode b_Mo_plain 246 = .ok (.iload 6, 2) := by decide +kernel
theorem d_Mo_plain_248 : decode b_Mo_plain 248 = .ok (.iload 5, 2) := by decide +kernel
theorem d_Mo_plain_250 : decode b_Mo_plain 250 = .ok (.isub, 1) := by decide +kernel
theorem d_Mo_plain_251 : decode b_Mo_plain 251 = .ok (.invokevirtual 269, 3) := by decide +kernel
theorem d_Mo_plain_254 : decode b_Mo_plain 254 = .ok (.goto 225, 3) := by decide +kernel
theorem d_Mo_plain_257 : decode b_Mo_plain 257 = .ok (.iload_n 2, 1) := by decide +kernel
theorem d_Mo_plain_258 : decode b_Mo_plain 258 = .ok (.bipush 7, 2) := by decide +kernel
theorem d_Mo_plain_260 : decode b_Mo_plain 260 = .ok (.if_icmp .ne 15, 3) := by decide +kernel
theorem d_Mo_plain_263 : decode b_Mo_plain 263 = .ok (.aload_n 0, 1) := by decide +kernel
theorem d_Mo_plain_264 : decode b_Mo_plain 264 = .ok (.iload 6, 2) := by decide +kernel
theorem d_Mo_plain_266 : decode b_Mo_plain 266 = .ok (.iload 5, 2) := by decide +kernel
theorem d_Mo_plain_268 : decode b_Mo_plain 268 = .ok (.imul, 1) := by decide +kernel
theorem d_Mo_plain_269 : decode b_Mo_plain 269 = .ok (.invokevirtual 269, 3) := by decide +kernel
theorem d_Mo_plain_272 : decode b_Mo_plain 272 = .ok (.goto 207, 3) := by decide +kernel
theorem d_Mo_plain_275 : decode b_Mo_plain 275 = .ok (.iload_n 2, 1) := by decide +kernel
theorem d_Mo_plain_276 : decode b_Mo_plain 276 = .ok (.bipush 8, 2) := by decide +kernel
theorem d_Mo_plain_278 : decode b_Mo_plain 278 = .ok (.if_icmp .ne 15, 3) := by decide +kernel
theorem d_Mo_plain_281 : decode b_Mo_plain 281 = .ok (.aload_n 0, 1) := by decide +kernel
theorem d_Mo_plain_282 : decode b_Mo_plain 282 = .ok (.iload 6, 2) := by decide +kernel
theorem d_Mo_plain_284 : decode b_Mo_plain 284 = .ok (.iload 5, 2) := by decide +kernel
theorem d_Mo_plain_286 : decode b_Mo_plain 286 = .ok (.idiv, 1) := by decide +kernel
theorem d_Mo_plain_287 : decode b_Mo_plain 287 = .ok (.invokevirtual 269, 3) := by decide +kernel
theorem d_Mo_plain_290 : decode b_Mo_plain 290 = .ok (.goto 189, 3) := by decide +kernel
theorem d_Mo_plain_293 : decode b_Mo_plain 293 = .ok (.iload_n 2, 1) := by decide +kernel
theorem d_Mo_plain_294 : decode b_Mo_plain 294 = .ok (.bipush 9, 2) := by decide +kernel
theorem d_Mo_plain_296 : decode b_Mo_plain 296 = .ok (.if_icmp .eq 14, 3) := by decide +kernel
theorem d_Mo_plain_299 : decode b_Mo_plain 299 = .ok (.iload_n 2, 1) := by decide +kernel
theorem d_Mo_plain_300 : decode b_Mo_plain 300 = .ok (.bipush 10, 2) := by decide +kernel
theorem d_Mo_plain_302 : decode b_Mo_plain 302 = .ok (.if_icmp .ne 14, 3) := by decide +kernel
theorem d_Mo_plain_305 : decode b_Mo_plain 305 = .ok (.iload 5, 2) := by decide +kernel
theorem d_Mo_plain_307 : decode b_Mo_plain 307 = .ok (.ifCond .gt 9, 3) := by decide +kernel
theorem d_Mo_plain_310 : decode b_Mo_plain 310 = .ok (.iload_n 3, 1) := by decide +kernel
theorem d_Mo_plain_311 : decode b_Mo_plain 311 = .ok (.istore 4, 2) := by decide +kernel
theorem d_Mo_plain_313 : decode b_Mo_plain 313 = .ok (.goto 166, 3) := by decide +kernel
theorem d_Mo_plain_316 : decode b_Mo_plain 316 = .ok (.iload_n 2, 1) := by decide +kernel
theorem d_Mo_plain_317 : decode b_Mo_plain 317 = .ok (.bipush 11, 2) := by decide +kernel
theorem d_Mo_plain_319 : decode b_Mo_plain 319 = .ok (.if_icmp .ne 11, 3) := by decide +kernel
theorem d_Mo_plain_322 : decode b_Mo_plain 322 = .ok (.aload_n 0, 1) := by decide +kernel
theorem d_Mo_plain_323 : decode b_Mo_plain 323 = .ok (.iload_n 3, 1) := by decide +kernel
theorem d_Mo_plain_324 : decode b_Mo_plain 324 = .ok (.invokevirtual 272, 3) := by decide +kernel
theorem d_Mo_plain_327 : decode b_Mo_plain 327 = .ok (.goto 152, 3) := by decide +kernel
theorem d_Mo_plain_330 : decode b_Mo_plain 330 = .ok (.iload_n 2, 1) := by decide +kernel
theorem d_Mo_plain_331 : decode b_Mo_plain 331 = .ok (.bipush 12, 2) := by decide +kernel
theorem d_Mo_plain_333 : decode b_Mo_plain 333 = .ok (.if_icmp .ne 22, 3) := by decide +kernel
theorem d_Mo_plain_336 : decode b_Mo_plain 336 = .ok (.aload_n 0, 1) := by decide +kernel
theorem d_Mo_plain_337 : decode b_Mo_plain 337 = .ok (.aload_n 0, 1) := by decide +kernel
theorem d_Mo_plain_338 : decode b_Mo_plain 338 = .ok (.getfield 95, 3) := by decide +kernel
theorem d_Mo_plain_341 : decode b_Mo_plain 341 = .ok (.bipush 6, 2) := by decide +kernel
theorem d_Mo_plain_343 : decode b_Mo_plain 343 = .ok (.iload 5, 2) := by decide +kernel
theorem d_Mo_plain_345 : decode b_Mo_plain 345 = .ok (.imul, 1) := by decide +kernel
theorem d_Mo_plain_346 : decode b_Mo_plain 346 = .ok (.iload_n 3, 1) := by decide +kernel
theorem d_Mo_plain_347 : decode b_Mo_plain 347 = .ok (.iadd, 1) := by decide +kernel
theorem d_Mo_plain_348 : decode b_Mo_plain 348 = .ok (.iaload, 1) := by decide +kernel
theorem d_Mo_plain_349 : decode b_Mo_plain 349 = .ok (.invokevirtual 269, 3) := by decide +kernel
theorem d_Mo_plain_352 : decode b_Mo_plain 352 = .ok (.goto 127, 3) := by decide +kernel
theorem d_Mo_plain_355 : decode b_Mo_plain 355 = .ok (.iload_n 2, 1) := by decide +kernel
theorem d_Mo_plain_356 : decode b_Mo_plain 356 = .ok (.bipush 13, 2) := by decide +kernel
theorem d_Mo_plain_358 : decode b_Mo_plain 358 = .ok (.if_icmp .ne 20, 3) := by decide +kernel
theorem d_Mo_plain_361 : decode b_Mo_plain 361 = .ok (.aload_n 0, 1) := by decide +kernel
theorem d_Mo_plain_362 : decode b_Mo_plain 362 = .ok (.getfield 95, 3) := by decide +kernel
theorem d_Mo_plain_365 : decode b_Mo_plain 365 = .ok (.bipush 6, 2) := by decide +kernel
theorem d_Mo_plain_367 : decode b_Mo_plain 367 = .ok (.iload 6, 2) := by decide +kernel
theorem d_Mo_plain_369 : decode b_Mo_plain 369 = .ok (.imul, 1) := by decide +kernel
theorem d_Mo_plain_370 : decode b_Mo_plain 370 = .ok (.iload_n 3, 1) := by decide +kernel
theorem d_Mo_plain_371 : decode b_Mo_plain 371 = .ok (.iadd, 1) := by decide +kernel
theorem d_Mo_plain_372 : decode b_Mo_plain 372 = .ok (.iload 5, 2) := by decide +kernel
theorem d_Mo_plain_374 : decode b_Mo_plain 374 = .ok (.iastore, 1) := by decide +kernel
theorem d_Mo_plain_375 : decode b_Mo_plain 375 = .ok (.goto 104, 3) := by decide +kernel
theorem d_Mo_plain_378 : decode b_Mo_plain 378 = .ok (.iload_n 2, 1) := by decide +kernel
theorem d_Mo_plain_379 : decode b_Mo_plain 379 = .ok (.bipush 14, 2) := by decide +kernel
theorem d_Mo_plain_381 : decode b_Mo_plain 381 = .ok (.if_icmp .ne 16, 3) := by decide +kernel
theorem d_Mo_plain_384 : decode b_Mo_plain 384 = .ok (.aload_n 0, 1) := by decide +kernel
theorem d_Mo_plain_385 : decode b_Mo_plain 385 = .ok (.aload_n 0, 1) := by decide +kernel
theorem d_Mo_plain_386 : decode b_Mo_plain 386 = .ok (.getfield 98, 3) := by decide +kernel
theorem d_Mo_plain_389 : decode b_Mo_plain 389 = .ok (.iload_n 3, 1) := by decide +kernel
theorem d_Mo_plain_390 : decode b_Mo_plain 390 = .ok (.iaload, 1) := by decide +kernel
theorem d_Mo_plain_391 : decode b_Mo_plain 391 = .ok (.invokevirtual 269, 3) := by decide +kernel
theorem d_Mo_plain_394 : decode b_Mo_plain 394 = .ok (.goto 85, 3) := by decide +kernel
theorem d_Mo_plain_397 : decode b_Mo_plain 397 = .ok (.iload_n 2, 1) := by decide +kernel
theorem d_Mo_plain_398 : decode b_Mo_plain 398 = .ok (.bipush 15, 2) := by decide +kernel
theorem d_Mo_plain_400 : decode b_Mo_plain 400 = .ok (.if_icmp .ne 14, 3) := by decide +kernel
theorem d_Mo_plain_403 : decode b_Mo_plain 403 = .ok (.aload_n 0, 1) := by decide +kernel
theorem d_Mo_plain_404 : decode b_Mo_plain 404 = .ok (.getfield 98, 3) := by decide +kernel
theorem d_Mo_plain_407 : decode b_Mo_plain 407 = .ok (.iload_n 3, 1) := by decide +kernel
theorem d_Mo_plain_408 : decode b_Mo_plain 408 = .ok (.iload 5, 2) := by decide +kernel
theorem d_Mo_plain_410 : decode b_Mo_plain 410 = .ok (.iastore, 1) := by decide +kernel
theorem d_Mo_plain_411 : decode b_Mo_plain 411 = .ok (.goto 68, 3) := by decide +kernel
theorem d_Mo_plain_414 : decode b_Mo_plain 414 = .ok (.iload_n 2, 1) := by decide +kernel
theorem d_Mo_plain_415 : decode b_Mo_plain 415 = .ok (.bipush 18, 2) := by decide +kernel
theorem d_Mo_plain_417 : decode b_Mo_plain 417 = .ok (.if_icmp .ne 12, 3) := by decide +kernel
theorem d_Mo_plain_420 : decode b_Mo_plain 420 = .ok (.aload_n 0, 1) := by decide +kernel
theorem d_Mo_plain_421 : decode b_Mo_plain 421 = .ok (.iload 5, 2) := by decide +kernel
theorem d_Mo_plain_423 : decode b_Mo_plain 423 = .ok (.invokevirtual 269, 3) := by decide +kernel
theorem d_Mo_plain_426 : decode b_Mo_plain 426 = .ok (.goto 53, 3) := by decide +kernel
theorem d_Mo_plain_429 : decode b_Mo_plain 429 = .ok (.iload_n 2, 1) := by decide +kernel
theorem d_Mo_plain_430 : decode b_Mo_plain 430 = .ok (.bipush 19, 2) := by decide +kernel
theorem d_Mo_plain_432 : decode b_Mo_plain 432 = .ok (.if_icmp .ne 35, 3) := by decide +kernel
theorem d_Mo_plain_435 : decode b_Mo_plain 435 = .ok (.aload_n 0, 1) := by decide +kernel
theorem d_Mo_plain_436 : decode b_Mo_plain 436 = .ok (.iload 5, 2) := by decide +kernel
theorem d_Mo_plain_438 : decode b_Mo_plain 438 = .ok (.ifCond .lt 22, 3) := by decide +kernel
theorem d_Mo_plain_441 : decode b_Mo_plain 441 = .ok (.aload_n 0, 1) := by decide +kernel
theorem d_Mo_plain_442 : decode b_Mo_plain 442 = .ok (.aload_n 0, 1) := by decide +kernel
theorem d_Mo_plain_443 : decode b_Mo_plain 443 = .ok (.getfield 92, 3) := by decide +kernel
theorem d_Mo_plain_446 : decode b_Mo_plain 446 = .ok (.iload 5, 2) := by decide +kernel
theorem d_Mo_plain_448 : decode b_Mo_plain 448 = .ok (.iaload, 1) := by decide +kernel
theorem d_Mo_plain_449 : decode b_Mo_plain 449 = .ok (.iload_n 3, 1) := by decide +kernel
theorem d_Mo_plain_450 : decode b_Mo_plain 450 = .ok (.invokevirtual 142, 3) := by decide +kernel
theorem d_Mo_plain_453 : decode b_Mo_plain 453 = .ok (.ifCond .eq 7, 3) := by decide +kernel
theorem d_Mo_plain_456 : decode b_Mo_plain 456 = .ok (.iconst 1, 1) := by decide +kernel
theorem d_Mo_plain_457 : decode b_Mo_plain 457 = .ok (.goto 4, 3) := by decide +kernel
theorem d_Mo_plain_460 : decode b_Mo_plain 460 = .ok (.iconst 0, 1) := by decide +kernel
theorem d_Mo_plain_461 : decode b_Mo_plain 461 = .ok (.invokevirtual 269, 3) := by decide +kernel
theorem d_Mo_plain_464 : decode b_Mo_plain 464 = .ok (.goto 15, 3) := by decide +kernel
theorem d_Mo_plain_467 : decode b_Mo_plain 467 = .ok (.iload_n 2, 1) := by decide +kernel
theorem d_Mo_plain_468 : decode b_Mo_plain 468 = .ok (.bipush 20, 2) := by decide +kernel
theorem d_Mo_plain_470 : decode b_Mo_plain 470 = .ok (.if_icmp .ne 9, 3) := by decide +kernel
theorem d_Mo_plain_473 : decode b_Mo_plain 473 = .ok (.aload_n 0, 1) := by decide +kernel
theorem d_Mo_plain_474 : decode b_Mo_plain 474 = .ok (.iload 5, 2) := by decide +kernel
theorem d_Mo_plain_476 : decode b_Mo_plain 476 = .ok (.invokevirtual 275, 3) := by decide +kernel
theorem d_Mo_plain_479 : decode b_Mo_plain 479 = .ok (.aload_n 0, 1) := by decide +kernel
theorem d_Mo_plain_480 : decode b_Mo_plain 480 = .ok (.getfield 74, 3) := by decide +kernel
theorem d_Mo_plain_483 : decode b_Mo_plain 483 = .ok (.iload_n 1, 1) := by decide +kernel
theorem d_Mo_plain_484 : decode b_Mo_plain 484 = .ok (.iload 4, 2) := by decide +kernel
theorem d_Mo_plain_486 : decode b_Mo_plain 486 = .ok (.iastore, 1) := by decide +kernel
theorem d_Mo_plain_487 : decode b_Mo_plain 487 = .ok (.iconst 0, 1) := by decide +kernel
theorem d_Mo_plain_488 : decode b_Mo_plain 488 = .ok (.ireturn, 1) := by decide +kernel
theorem d_Mo_create_0 : decode b_Mo_create 0 = .ok (.aload_n 0, 1) := by decide +kernel
theorem d_Mo_create_1 : decode b_Mo_create 1 = .ok (.getfield 92, 3) := by decide +kernel
theorem d_Mo_create_4 : decode b_Mo_create 4 = .ok (.aload_n 0, 1) := by decide +kernel
theorem d_Mo_create_5 : decode b_Mo_create 5 = .ok (.getfield 229, 3) := by decide +kernel
theorem d_Mo_create_8 : decode b_Mo_create 8 = .ok (.iload_n 1, 1) := by decide +kernel
theorem d_Mo_create_9 : decode b_Mo_create 9 = .ok (.iastore, 1) := by decide +kernel
theorem d_Mo_create_10 : decode b_Mo_create 10 = .ok (.iconst 0, 1) := by decide +kernel
theorem d_Mo_create_11 : decode b_Mo_create 11 = .ok (.istore_n 2, 1) := by decide +kernel
theorem d_Mo_create_12 : decode b_Mo_create 12 = .ok (.iload_n 2, 1) := by decide +kernel
theorem d_Mo_create_13 : decode b_Mo_create 13 = .ok (.bipush 6, 2) := by decide +kernel
theorem d_Mo_create_15 : decode b_Mo_create 15 = .ok (.if_icmp .ge 24, 3) := by decide +kernel
theorem d_Mo_create_18 : decode b_Mo_create 18 = .ok (.aload_n 0, 1) := by decide +kernel
theorem d_Mo_create_19 : decode b_Mo_create 19 = .ok (.getfield 95, 3) := by decide +kernel
theorem d_Mo_create_22 : decode b_Mo_create 22 = .ok (.bipush 6, 2) := by decide +kernel
theorem d_Mo_create_24 : decode b_Mo_create 24 = .ok (.aload_n 0, 1) := by decide +kernel
theorem d_Mo_create_25 : decode b_Mo_create 25 = .ok (.getfield 229, 3) := by decide +kernel
theorem d_Mo_create_28 : decode b_Mo_create 28 = .ok (.imul, 1) := by decide +kernel
theorem d_Mo_create_29 : decode b_Mo_create 29 = .ok (.iload_n 2, 1) := by decide +kernel
theorem d_Mo_create_30 : decode b_Mo_create 30 = .ok (.iadd, 1) := by decide +kernel
theorem d_Mo_create_31 : decode b_Mo_create 31 = .ok (.iconst 0, 1) := by decide +kernel
theorem d_Mo_create_32 : decode b_Mo_create 32 = .ok (.iastore, 1) := by decide +kernel
theorem d_Mo_create_33 : decode b_Mo_create 33 = .ok (.iinc 2 1, 3) := by decide +kernel
theorem d_Mo_create_36 : decode b_Mo_create 36 = .ok (.goto (-24), 3) := by decide +kernel
theorem d_Mo_create_39 : decode b_Mo_create 39 = .ok (.aload_n 0, 1) := by decide +kernel
theorem d_Mo_create_40 : decode b_Mo_create 40 = .ok (.aload_n 0, 1) := by decide +kernel
theorem d_Mo_create_41 : decode b_Mo_create 41 = .ok (.getfield 229, 3) := by decide +kernel
theorem d_Mo_create_44 : decode b_Mo_create 44 = .ok (.invokevirtual 269, 3) := by decide +kernel
theorem d_Mo_create_47 : decode b_Mo_create 47 = .ok (.aload_n 0, 1) := by decide +kernel
theorem d_Mo_create_48 : decode b_Mo_create 48 = .ok (.dup, 1) := by decide +kernel
theorem d_Mo_create_49 : decode b_Mo_create 49 = .ok (.getfield 229, 3) := by decide +kernel
theorem d_Mo_create_52 : decode b_Mo_create 52 = .ok (.iconst 1, 1) := by decide +kernel
theorem d_Mo_create_53 : decode b_Mo_create 53 = .ok (.iadd, 1) := by decide +kernel
theorem d_Mo_create_54 : decode b_Mo_create 54 = .ok (.putfield 229, 3) := by decide +kernel
theorem d_Mo_create_57 : decode b_Mo_create 57 = .ok (.return_, 1) := by decide +kernel
theorem d_Mo_print_0 : decode b_Mo_print 0 = .ok (.aload_n 0, 1) := by decide +kernel
theorem d_Mo_print_1 : decode b_Mo_print 1 = .ok (.getfield 235, 3) := by decide +kernel
theorem d_Mo_print_4 : decode b_Mo_print 4 = .ok (.bipush 16, 2) := by decide +kernel
theorem d_Mo_print_6 : decode b_Mo_print 6 = .ok (.if_icmp .ge 13, 3) := by decide +kernel
theorem d_Mo_print_9 : decode b_Mo_print 9 = .ok (.aload_n 0, 1) := by decide +kernel
theorem d_Mo_print_10 : decode b_Mo_print 10 = .ok (.getfield 104, 3) := by decide +kernel
theorem d_Mo_print_13 : decode b_Mo_print 13 = .ok (.aload_n 0, 1) := by decide +kernel
theorem d_Mo_print_14 : decode b_Mo_print 14 = .ok (.getfield 235, 3) := by decide +kernel
theorem d_Mo_print_17 : decode b_Mo_print 17 = .ok (.iload_n 1, 1) := by decide +kernel
theorem d_Mo_print_18 : decode b_Mo_print 18 = .ok (.iastore, 1) := by decide +kernel
theorem d_Mo_print_19 : decode b_Mo_print 19 = .ok (.aload_n 0, 1) := by decide +kernel
theorem d_Mo_print_20 : decode b_Mo_print 20 = .ok (.dup, 1) := by decide +kernel
theorem d_Mo_print_21 : decode b_Mo_print 21 = .ok (.getfield 235, 3) := by decide +kernel
theorem d_Mo_print_24 : decode b_Mo_print 24 = .ok (.iconst 1, 1) := by decide +kernel
theorem d_Mo_print_25 : decode b_Mo_print 25 = .ok (.iadd, 1) := by decide +kernel
theorem d_Mo_print_26 : decode b_Mo_print 26 = .ok (.putfield 235, 3) := by decide +kernel
theorem d_Mo_print_29 : decode b_Mo_print 29 = .ok (.return_, 1) := by decide +kernel
theorem d_Mo_begin_0 : decode b_Mo_begin 0 = .ok (.aload_n 0, 1) := by decide +kernel
theorem d_Mo_begin_1 : decode b_Mo_begin 1 = .ok (.aload_n 0, 1) := by decide +kernel
theorem d_Mo_begin_2 : decode b_Mo_begin 2 = .ok (.getfield 19, 3) := by decide +kernel
theorem d_Mo_begin_5 : decode b_Mo_begin 5 = .ok (.iconst 0, 1) := by decide +kernel
theorem d_Mo_begin_6 : decode b_Mo_begin 6 = .ok (.iaload, 1) := by decide +kernel
theorem d_Mo_begin_7 : decode b_Mo_begin 7 = .ok (.invokevirtual 244, 3) := by decide +kernel
theorem d_Mo_begin_10 : decode b_Mo_begin 10 = .ok (.istore_n 2, 1) := by decide +kernel
theorem d_Mo_begin_11 : decode b_Mo_begin 11 = .ok (.iload_n 2, 1) := by decide +kernel
theorem d_Mo_begin_12 : decode b_Mo_begin 12 = .ok (.ifCond .eq 21, 3) := by decide +kernel
theorem d_Mo_begin_15 : decode b_Mo_begin 15 = .ok (.aload_n 0, 1) := by decide +kernel
