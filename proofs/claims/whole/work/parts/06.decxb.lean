theorem d_Ch_isSound_11 : decode b_Ch_isSound 11 = .ok (.iconst 1, 1) := by decide +kernel
theorem d_Ch_isSound_12 : decode b_Ch_isSound 12 = .ok (.putfield 36, 3) := by decide +kernel
theorem d_Ch_isSound_15 : decode b_Ch_isSound 15 = .ok (.aload_n 0, 1) := by decide +kernel
theorem d_Ch_isSound_16 : decode b_Ch_isSound 16 = .ok (.getfield 15, 3) := by decide +kernel
theorem d_Ch_isSound_19 : decode b_Ch_isSound 19 = .ok (.iload_n 1, 1) := by decide +kernel
theorem d_Ch_isSound_20 : decode b_Ch_isSound 20 = .ok (.iconst 0, 1) := by decide +kernel
theorem d_Ch_isSound_21 : decode b_Ch_isSound 21 = .ok (.invokestatic 40, 3) := by decide +kernel
theorem d_Ch_isSound_24 : decode b_Ch_isSound 24 = .ok (.iload_n 1, 1) := by decide +kernel
theorem d_Ch_isSound_25 : decode b_Ch_isSound 25 = .ok (.bipush 20, 2) := by decide +kernel
theorem d_Ch_isSound_27 : decode b_Ch_isSound 27 = .ok (.invokestatic 40, 3) := by decide +kernel
theorem d_Ch_isSound_30 : decode b_Ch_isSound 30 = .ok (.iconst (-1), 1) := by decide +kernel
theorem d_Ch_isSound_31 : decode b_Ch_isSound 31 = .ok (.invokestatic 44, 3) := by decide +kernel
theorem d_Ch_isSound_34 : decode b_Ch_isSound 34 = .ok (.aload_n 0, 1) := by decide +kernel
theorem d_Ch_isSound_35 : decode b_Ch_isSound 35 = .ok (.invokevirtual 50, 3) := by decide +kernel
theorem d_Ch_isSound_38 : decode b_Ch_isSound 38 = .ok (.iconst 0, 1) := by decide +kernel
theorem d_Ch_isSound_39 : decode b_Ch_isSound 39 = .ok (.istore_n 2, 1) := by decide +kernel
theorem d_Ch_isSound_40 : decode b_Ch_isSound 40 = .ok (.iload_n 2, 1) := by decide +kernel
theorem d_Ch_isSound_41 : decode b_Ch_isSound 41 = .ok (.sipush 2000, 3) := by decide +kernel
theorem d_Ch_isSound_44 : decode b_Ch_isSound 44 = .ok (.if_icmp .ge 31, 3) := by decide +kernel
theorem d_Ch_isSound_47 : decode b_Ch_isSound 47 = .ok (.aload_n 0, 1) := by decide +kernel
theorem d_Ch_isSound_48 : decode b_Ch_isSound 48 = .ok (.getfield 36, 3) := by decide +kernel
theorem d_Ch_isSound_51 : decode b_Ch_isSound 51 = .ok (.ifCond .eq 24, 3) := by decide +kernel
theorem d_Ch_isSound_54 : decode b_Ch_isSound 54 = .ok (.aload_n 0, 1) := by decide +kernel
theorem d_Ch_isSound_55 : decode b_Ch_isSound 55 = .ok (.getfield 33, 3) := by decide +kernel
theorem d_Ch_isSound_58 : decode b_Ch_isSound 58 = .ok (.ifCond .eq 17, 3) := by decide +kernel
theorem d_Ch_isSound_61 : decode b_Ch_isSound 61 = .ok (.aload_n 0, 1) := by decide +kernel
theorem d_Ch_isSound_62 : decode b_Ch_isSound 62 = .ok (.aload_n 0, 1) := by decide +kernel
theorem d_Ch_isSound_63 : decode b_Ch_isSound 63 = .ok (.invokevirtual 53, 3) := by decide +kernel
theorem d_Ch_isSound_66 : decode b_Ch_isSound 66 = .ok (.invokevirtual 57, 3) := by decide +kernel
theorem d_Ch_isSound_69 : decode b_Ch_isSound 69 = .ok (.iinc 2 1, 3) := by decide +kernel
theorem d_Ch_isSound_72 : decode b_Ch_isSound 72 = .ok (.goto (-32), 3) := by decide +kernel
theorem d_Ch_isSound_75 : decode b_Ch_isSound 75 = .ok (.aload_n 0, 1) := by decide +kernel
theorem d_Ch_isSound_76 : decode b_Ch_isSound 76 = .ok (.getfield 36, 3) := by decide +kernel
theorem d_Ch_isSound_79 : decode b_Ch_isSound 79 = .ok (.ireturn, 1) := by decide +kernel
theorem d_Ch_rowOf_0 : decode b_Ch_rowOf 0 = .ok (.iload_n 0, 1) := by decide +kernel
theorem d_Ch_rowOf_1 : decode b_Ch_rowOf 1 = .ok (.bipush 20, 2) := by decide +kernel
theorem d_Ch_rowOf_3 : decode b_Ch_rowOf 3 = .ok (.imul, 1) := by decide +kernel
theorem d_Ch_rowOf_4 : decode b_Ch_rowOf 4 = .ok (.iload_n 1, 1) := by decide +kernel
theorem d_Ch_rowOf_5 : decode b_Ch_rowOf 5 = .ok (.iadd, 1) := by decide +kernel
theorem d_Ch_rowOf_6 : decode b_Ch_rowOf 6 = .ok (.ireturn, 1) := by decide +kernel
theorem d_Ar_fill4_0 : decode b_Ar_fill4 0 = .ok (.aload_n 0, 1) := by decide +kernel
theorem d_Ar_fill4_1 : decode b_Ar_fill4 1 = .ok (.arraylength, 1) := by decide +kernel
theorem d_Ar_fill4_2 : decode b_Ar_fill4 2 = .ok (.iload_n 1, 1) := by decide +kernel
theorem d_Ar_fill4_3 : decode b_Ar_fill4 3 = .ok (.iload_n 2, 1) := by decide +kernel
theorem d_Ar_fill4_4 : decode b_Ar_fill4 4 = .ok (.invokestatic 13, 3) := by decide +kernel
theorem d_Ar_fill4_7 : decode b_Ar_fill4 7 = .ok (.iload_n 1, 1) := by decide +kernel
theorem d_Ar_fill4_8 : decode b_Ar_fill4 8 = .ok (.istore 4, 2) := by decide +kernel
theorem d_Ar_fill4_10 : decode b_Ar_fill4 10 = .ok (.iload 4, 2) := by decide +kernel
theorem d_Ar_fill4_12 : decode b_Ar_fill4 12 = .ok (.iload_n 2, 1) := by decide +kernel
theorem d_Ar_fill4_13 : decode b_Ar_fill4 13 = .ok (.if_icmp .ge 14, 3) := by decide +kernel
theorem d_Ar_fill4_16 : decode b_Ar_fill4 16 = .ok (.aload_n 0, 1) := by decide +kernel
theorem d_Ar_fill4_17 : decode b_Ar_fill4 17 = .ok (.iload 4, 2) := by decide +kernel
theorem d_Ar_fill4_19 : decode b_Ar_fill4 19 = .ok (.iload_n 3, 1) := by decide +kernel
theorem d_Ar_fill4_20 : decode b_Ar_fill4 20 = .ok (.iastore, 1) := by decide +kernel
theorem d_Ar_fill4_21 : decode b_Ar_fill4 21 = .ok (.iinc 4 1, 3) := by decide +kernel
theorem d_Ar_fill4_24 : decode b_Ar_fill4 24 = .ok (.goto (-14), 3) := by decide +kernel
theorem d_Ar_fill4_27 : decode b_Ar_fill4 27 = .ok (.return_, 1) := by decide +kernel
theorem d_Ar_rangeCheck_0 : decode b_Ar_rangeCheck 0 = .ok (.iload_n 1, 1) := by decide +kernel
theorem d_Ar_rangeCheck_1 : decode b_Ar_rangeCheck 1 = .ok (.iload_n 2, 1) := by decide +kernel
theorem d_Ar_rangeCheck_2 : decode b_Ar_rangeCheck 2 = .ok (.if_icmp .le 44, 3) := by decide +kernel
theorem d_Ar_rangeCheck_5 : decode b_Ar_rangeCheck 5 = .ok (.new 43, 3) := by decide +kernel
theorem d_Ar_rangeCheck_8 : decode b_Ar_rangeCheck 8 = .ok (.dup, 1) := by decide +kernel
theorem d_Ar_rangeCheck_9 : decode b_Ar_rangeCheck 9 = .ok (.new 45, 3) := by decide +kernel
theorem d_Ar_rangeCheck_12 : decode b_Ar_rangeCheck 12 = .ok (.dup, 1) := by decide +kernel
theorem d_Ar_rangeCheck_13 : decode b_Ar_rangeCheck 13 = .ok (.invokespecial 47, 3) := by decide +kernel
theorem d_Ar_rangeCheck_16 : decode b_Ar_rangeCheck 16 = .ok (.ldc 48, 2) := by decide +kernel
theorem d_Ar_rangeCheck_18 : decode b_Ar_rangeCheck 18 = .ok (.invokevirtual 50, 3) := by decide +kernel
theorem d_Ar_rangeCheck_21 : decode b_Ar_rangeCheck 21 = .ok (.iload_n 1, 1) := by decide +kernel
theorem d_Ar_rangeCheck_22 : decode b_Ar_rangeCheck 22 = .ok (.invokevirtual 54, 3) := by decide +kernel
theorem d_Ar_rangeCheck_25 : decode b_Ar_rangeCheck 25 = .ok (.ldc 57, 2) := by decide +kernel
theorem d_Ar_rangeCheck_27 : decode b_Ar_rangeCheck 27 = .ok (.invokevirtual 50, 3) := by decide +kernel
theorem d_Ar_rangeCheck_30 : decode b_Ar_rangeCheck 30 = .ok (.iload_n 2, 1) := by decide +kernel
theorem d_Ar_rangeCheck_31 : decode b_Ar_rangeCheck 31 = .ok (.invokevirtual 54, 3) := by decide +kernel
theorem d_Ar_rangeCheck_34 : decode b_Ar_rangeCheck 34 = .ok (.ldc 59, 2) := by decide +kernel
theorem d_Ar_rangeCheck_36 : decode b_Ar_rangeCheck 36 = .ok (.invokevirtual 50, 3) := by decide +kernel
theorem d_Ar_rangeCheck_39 : decode b_Ar_rangeCheck 39 = .ok (.invokevirtual 61, 3) := by decide +kernel
theorem d_Ar_rangeCheck_42 : decode b_Ar_rangeCheck 42 = .ok (.invokespecial 65, 3) := by decide +kernel
theorem d_Ar_rangeCheck_45 : decode b_Ar_rangeCheck 45 = .ok (.athrow, 1) := by decide +kernel
theorem d_Ar_rangeCheck_46 : decode b_Ar_rangeCheck 46 = .ok (.iload_n 1, 1) := by decide +kernel
theorem d_Ar_rangeCheck_47 : decode b_Ar_rangeCheck 47 = .ok (.ifCond .ge 12, 3) := by decide +kernel
theorem d_Ar_rangeCheck_50 : decode b_Ar_rangeCheck 50 = .ok (.new 68, 3) := by decide +kernel
theorem d_Ar_rangeCheck_53 : decode b_Ar_rangeCheck 53 = .ok (.dup, 1) := by decide +kernel
theorem d_Ar_rangeCheck_54 : decode b_Ar_rangeCheck 54 = .ok (.iload_n 1, 1) := by decide +kernel
theorem d_Ar_rangeCheck_55 : decode b_Ar_rangeCheck 55 = .ok (.invokespecial 70, 3) := by decide +kernel
theorem d_Ar_rangeCheck_58 : decode b_Ar_rangeCheck 58 = .ok (.athrow, 1) := by decide +kernel
theorem d_Ar_rangeCheck_59 : decode b_Ar_rangeCheck 59 = .ok (.iload_n 2, 1) := by decide +kernel
theorem d_Ar_rangeCheck_60 : decode b_Ar_rangeCheck 60 = .ok (.iload_n 0, 1) := by decide +kernel
theorem d_Ar_rangeCheck_61 : decode b_Ar_rangeCheck 61 = .ok (.if_icmp .le 12, 3) := by decide +kernel
theorem d_Ar_rangeCheck_64 : decode b_Ar_rangeCheck 64 = .ok (.new 68, 3) := by decide +kernel
theorem d_Ar_rangeCheck_67 : decode b_Ar_rangeCheck 67 = .ok (.dup, 1) := by decide +kernel
theorem d_Ar_rangeCheck_68 : decode b_Ar_rangeCheck 68 = .ok (.iload_n 2, 1) := by decide +kernel
theorem d_Ar_rangeCheck_69 : decode b_Ar_rangeCheck 69 = .ok (.invokespecial 70, 3) := by decide +kernel
theorem d_Ar_rangeCheck_72 : decode b_Ar_rangeCheck 72 = .ok (.athrow, 1) := by decide +kernel
theorem d_Ar_rangeCheck_73 : decode b_Ar_rangeCheck 73 = .ok (.return_, 1) := by decide +kernel
theorem d_Ch_enterStart_0 : decode b_Ch_enterStart 0 = .ok (.aload_n 0, 1) := by decide +kernel
theorem d_Ch_enterStart_1 : decode b_Ch_enterStart 1 = .ok (.getfield 21, 3) := by decide +kernel
theorem d_Ch_enterStart_4 : decode b_Ch_enterStart 4 = .ok (.invokevirtual 74, 3) := by decide +kernel
theorem d_Ch_enterStart_7 : decode b_Ch_enterStart 7 = .ok (.iconst 0, 1) := by decide +kernel
theorem d_Ch_enterStart_8 : decode b_Ch_enterStart 8 = .ok (.istore_n 1, 1) := by decide +kernel
theorem d_Ch_enterStart_9 : decode b_Ch_enterStart 9 = .ok (.iload_n 1, 1) := by decide +kernel
theorem d_Ch_enterStart_10 : decode b_Ch_enterStart 10 = .ok (.aload_n 0, 1) := by decide +kernel
theorem d_Ch_enterStart_11 : decode b_Ch_enterStart 11 = .ok (.getfield 25, 3) := by decide +kernel
theorem d_Ch_enterStart_14 : decode b_Ch_enterStart 14 = .ok (.aload_n 0, 1) := by decide +kernel
theorem d_Ch_enterStart_15 : decode b_Ch_enterStart 15 = .ok (.getfield 29, 3) := by decide +kernel
theorem d_Ch_enterStart_18 : decode b_Ch_enterStart 18 = .ok (.invokevirtual 77, 3) := by decide +kernel
theorem d_Ch_enterStart_21 : decode b_Ch_enterStart 21 = .ok (.if_icmp .ge 19, 3) := by decide +kernel
theorem d_Ch_enterStart_24 : decode b_Ch_enterStart 24 = .ok (.aload_n 0, 1) := by decide +kernel
theorem d_Ch_enterStart_25 : decode b_Ch_enterStart 25 = .ok (.getfield 21, 3) := by decide +kernel
theorem d_Ch_enterStart_28 : decode b_Ch_enterStart 28 = .ok (.iload_n 1, 1) := by decide +kernel
theorem d_Ch_enterStart_29 : decode b_Ch_enterStart 29 = .ok (.bipush 9, 2) := by decide +kernel
theorem d_Ch_enterStart_31 : decode b_Ch_enterStart 31 = .ok (.invokevirtual 81, 3) := by decide +kernel
theorem d_Ch_enterStart_34 : decode b_Ch_enterStart 34 = .ok (.iinc 1 1, 3) := by decide +kernel
theorem d_Ch_enterStart_37 : decode b_Ch_enterStart 37 = .ok (.goto (-28), 3) := by decide +kernel
theorem d_Ch_enterStart_40 : decode b_Ch_enterStart 40 = .ok (.aload_n 0, 1) := by decide +kernel
theorem d_Ch_enterStart_41 : decode b_Ch_enterStart 41 = .ok (.getfield 25, 3) := by decide +kernel
theorem d_Ch_enterStart_44 : decode b_Ch_enterStart 44 = .ok (.aload_n 0, 1) := by decide +kernel
theorem d_Ch_enterStart_45 : decode b_Ch_enterStart 45 = .ok (.getfield 29, 3) := by decide +kernel
theorem d_Ch_enterStart_48 : decode b_Ch_enterStart 48 = .ok (.invokevirtual 85, 3) := by decide +kernel
theorem d_Ch_enterStart_51 : decode b_Ch_enterStart 51 = .ok (.ifCond .ne 22, 3) := by decide +kernel
theorem d_Ch_enterStart_54 : decode b_Ch_enterStart 54 = .ok (.aload_n 0, 1) := by decide +kernel
theorem d_Ch_enterStart_55 : decode b_Ch_enterStart 55 = .ok (.getfield 21, 3) := by decide +kernel
theorem d_Ch_enterStart_58 : decode b_Ch_enterStart 58 = .ok (.iconst 0, 1) := by decide +kernel
theorem d_Ch_enterStart_59 : decode b_Ch_enterStart 59 = .ok (.aload_n 0, 1) := by decide +kernel
theorem d_Ch_enterStart_60 : decode b_Ch_enterStart 60 = .ok (.getfield 25, 3) := by decide +kernel
theorem d_Ch_enterStart_63 : decode b_Ch_enterStart 63 = .ok (.aload_n 0, 1) := by decide +kernel
theorem d_Ch_enterStart_64 : decode b_Ch_enterStart 64 = .ok (.getfield 29, 3) := by decide +kernel
theorem d_Ch_enterStart_67 : decode b_Ch_enterStart 67 = .ok (.invokevirtual 88, 3) := by decide +kernel
theorem d_Ch_enterStart_70 : decode b_Ch_enterStart 70 = .ok (.invokevirtual 81, 3) := by decide +kernel
theorem d_Ch_enterStart_73 : decode b_Ch_enterStart 73 = .ok (.aload_n 0, 1) := by decide +kernel
theorem d_Ch_enterStart_74 : decode b_Ch_enterStart 74 = .ok (.iconst 0, 1) := by decide +kernel
theorem d_Ch_enterStart_75 : decode b_Ch_enterStart 75 = .ok (.invokevirtual 91, 3) := by decide +kernel
theorem d_Ch_enterStart_78 : decode b_Ch_enterStart 78 = .ok (.return_, 1) := by decide +kernel
theorem d_Fr_clear_0 : decode b_Fr_clear 0 = .ok (.aload_n 0, 1) := by decide +kernel
theorem d_Fr_clear_1 : decode b_Fr_clear 1 = .ok (.getfield 9, 3) := by decide +kernel
theorem d_Fr_clear_4 : decode b_Fr_clear 4 = .ok (.bipush 8, 2) := by decide +kernel
theorem d_Fr_clear_6 : decode b_Fr_clear 6 = .ok (.invokestatic 15, 3) := by decide +kernel
theorem d_Fr_clear_9 : decode b_Fr_clear 9 = .ok (.aload_n 0, 1) := by decide +kernel
theorem d_Fr_clear_10 : decode b_Fr_clear 10 = .ok (.iconst 0, 1) := by decide +kernel
theorem d_Fr_clear_11 : decode b_Fr_clear 11 = .ok (.putfield 21, 3) := by decide +kernel
theorem d_Fr_clear_14 : decode b_Fr_clear 14 = .ok (.aload_n 0, 1) := by decide +kernel
theorem d_Fr_clear_15 : decode b_Fr_clear 15 = .ok (.iconst 0, 1) := by decide +kernel
theorem d_Fr_clear_16 : decode b_Fr_clear 16 = .ok (.putfield 25, 3) := by decide +kernel
theorem d_Fr_clear_19 : decode b_Fr_clear 19 = .ok (.return_, 1) := by decide +kernel
theorem d_Pr_inputsOf_0 : decode b_Pr_inputsOf 0 = .ok (.aload_n 0, 1) := by decide +kernel
theorem d_Pr_inputsOf_1 : decode b_Pr_inputsOf 1 = .ok (.iload_n 1, 1) := by decide +kernel
theorem d_Pr_inputsOf_2 : decode b_Pr_inputsOf 2 = .ok (.invokevirtual 87, 3) := by decide +kernel
theorem d_Pr_inputsOf_5 : decode b_Pr_inputsOf 5 = .ok (.ifCond .eq 12, 3) := by decide +kernel
theorem d_Pr_inputsOf_8 : decode b_Pr_inputsOf 8 = .ok (.aload_n 0, 1) := by decide +kernel
theorem d_Pr_inputsOf_9 : decode b_Pr_inputsOf 9 = .ok (.getfield 32, 3) := by decide +kernel
theorem d_Pr_inputsOf_12 : decode b_Pr_inputsOf 12 = .ok (.iload_n 1, 1) := by decide +kernel
theorem d_Pr_inputsOf_13 : decode b_Pr_inputsOf 13 = .ok (.iaload, 1) := by decide +kernel
theorem d_Pr_inputsOf_14 : decode b_Pr_inputsOf 14 = .ok (.goto 4, 3) := by decide +kernel
theorem d_Pr_inputsOf_17 : decode b_Pr_inputsOf 17 = .ok (.iconst 0, 1) := by decide +kernel
theorem d_Pr_inputsOf_18 : decode b_Pr_inputsOf 18 = .ok (.ireturn, 1) := by decide +kernel
theorem d_Fr_setPlace_0 : decode b_Fr_setPlace 0 = .ok (.iload_n 1, 1) := by decide +kernel
theorem d_Fr_setPlace_1 : decode b_Fr_setPlace 1 = .ok (.bipush 10, 2) := by decide +kernel
theorem d_Fr_setPlace_3 : decode b_Fr_setPlace 3 = .ok (.invokestatic 43, 3) := by decide +kernel
theorem d_Fr_setPlace_6 : decode b_Fr_setPlace 6 = .ok (.ifCond .eq 10, 3) := by decide +kernel
theorem d_Fr_setPlace_9 : decode b_Fr_setPlace 9 = .ok (.aload_n 0, 1) := by decide +kernel
theorem d_Fr_setPlace_10 : decode b_Fr_setPlace 10 = .ok (.getfield 9, 3) := by decide +kernel
theorem d_Fr_setPlace_13 : decode b_Fr_setPlace 13 = .ok (.iload_n 1, 1) := by decide +kernel
theorem d_Fr_setPlace_14 : decode b_Fr_setPlace 14 = .ok (.iload_n 2, 1) := by decide +kernel
theorem d_Fr_setPlace_15 : decode b_Fr_setPlace 15 = .ok (.iastore, 1) := by decide +kernel
theorem d_Fr_setPlace_16 : decode b_Fr_setPlace 16 = .ok (.return_, 1) := by decide +kernel
theorem d_Pr_ownerOf_0 : decode b_Pr_ownerOf 0 = .ok (.aload_n 0, 1) := by decide +kernel
theorem d_Pr_ownerOf_1 : decode b_Pr_ownerOf 1 = .ok (.iload_n 1, 1) := by decide +kernel
theorem d_Pr_ownerOf_2 : decode b_Pr_ownerOf 2 = .ok (.invokevirtual 87, 3) := by decide +kernel
theorem d_Pr_ownerOf_5 : decode b_Pr_ownerOf 5 = .ok (.ifCond .eq 12, 3) := by decide +kernel
theorem d_Pr_ownerOf_8 : decode b_Pr_ownerOf 8 = .ok (.aload_n 0, 1) := by decide +kernel
theorem d_Pr_ownerOf_9 : decode b_Pr_ownerOf 9 = .ok (.getfield 26, 3) := by decide +kernel
theorem d_Pr_ownerOf_12 : decode b_Pr_ownerOf 12 = .ok (.iload_n 1, 1) := by decide +kernel
theorem d_Pr_ownerOf_13 : decode b_Pr_ownerOf 13 = .ok (.iaload, 1) := by decide +kernel
theorem d_Pr_ownerOf_14 : decode b_Pr_ownerOf 14 = .ok (.goto 4, 3) := by decide +kernel
theorem d_Pr_ownerOf_17 : decode b_Pr_ownerOf 17 = .ok (.iconst (-1), 1) := by decide +kernel
theorem d_Pr_ownerOf_18 : decode b_Pr_ownerOf 18 = .ok (.ireturn, 1) := by decide +kernel
theorem d_Ch_arriveAt_0 : decode b_Ch_arriveAt 0 = .ok (.iload_n 1, 1) := by decide +kernel
theorem d_Ch_arriveAt_1 : decode b_Ch_arriveAt 1 = .ok (.aload_n 0, 1) := by decide +kernel
theorem d_Ch_arriveAt_2 : decode b_Ch_arriveAt 2 = .ok (.getfield 25, 3) := by decide +kernel
theorem d_Ch_arriveAt_5 : decode b_Ch_arriveAt 5 = .ok (.aload_n 0, 1) := by decide +kernel
theorem d_Ch_arriveAt_6 : decode b_Ch_arriveAt 6 = .ok (.getfield 29, 3) := by decide +kernel
theorem d_Ch_arriveAt_9 : decode b_Ch_arriveAt 9 = .ok (.invokevirtual 120, 3) := by decide +kernel
theorem d_Ch_arriveAt_12 : decode b_Ch_arriveAt 12 = .ok (.invokestatic 67, 3) := by decide +kernel
theorem d_Ch_arriveAt_15 : decode b_Ch_arriveAt 15 = .ok (.ifCond .ne 9, 3) := by decide +kernel
theorem d_Ch_arriveAt_18 : decode b_Ch_arriveAt 18 = .ok (.aload_n 0, 1) := by decide +kernel
theorem d_Ch_arriveAt_19 : decode b_Ch_arriveAt 19 = .ok (.iconst 0, 1) := by decide +kernel
theorem d_Ch_arriveAt_20 : decode b_Ch_arriveAt 20 = .ok (.putfield 36, 3) := by decide +kernel
theorem d_Ch_arriveAt_23 : decode b_Ch_arriveAt 23 = .ok (.return_, 1) := by decide +kernel
theorem d_Ch_arriveAt_24 : decode b_Ch_arriveAt 24 = .ok (.aload_n 0, 1) := by decide +kernel
theorem d_Ch_arriveAt_25 : decode b_Ch_arriveAt 25 = .ok (.getfield 29, 3) := by decide +kernel
theorem d_Ch_arriveAt_28 : decode b_Ch_arriveAt 28 = .ok (.iload_n 1, 1) := by decide +kernel
theorem d_Ch_arriveAt_29 : decode b_Ch_arriveAt 29 = .ok (.invokestatic 40, 3) := by decide +kernel
theorem d_Ch_arriveAt_32 : decode b_Ch_arriveAt 32 = .ok (.istore_n 2, 1) := by decide +kernel
theorem d_Ch_arriveAt_33 : decode b_Ch_arriveAt 33 = .ok (.aload_n 0, 1) := by decide +kernel
theorem d_Ch_arriveAt_34 : decode b_Ch_arriveAt 34 = .ok (.getfield 15, 3) := by decide +kernel
theorem d_Ch_arriveAt_37 : decode b_Ch_arriveAt 37 = .ok (.iload_n 2, 1) := by decide +kernel
theorem d_Ch_arriveAt_38 : decode b_Ch_arriveAt 38 = .ok (.iaload, 1) := by decide +kernel
theorem d_Ch_arriveAt_39 : decode b_Ch_arriveAt 39 = .ok (.iconst (-1), 1) := by decide +kernel
theorem d_Ch_arriveAt_40 : decode b_Ch_arriveAt 40 = .ok (.if_icmp .ne 7, 3) := by decide +kernel
theorem d_Ch_arriveAt_43 : decode b_Ch_arriveAt 43 = .ok (.iconst 1, 1) := by decide +kernel
theorem d_Ch_arriveAt_44 : decode b_Ch_arriveAt 44 = .ok (.goto 4, 3) := by decide +kernel
theorem d_Ch_arriveAt_47 : decode b_Ch_arriveAt 47 = .ok (.iconst 0, 1) := by decide +kernel
theorem d_Ch_arriveAt_48 : decode b_Ch_arriveAt 48 = .ok (.istore_n 3, 1) := by decide +kernel
theorem d_Ch_arriveAt_49 : decode b_Ch_arriveAt 49 = .ok (.iload_n 3, 1) := by decide +kernel
theorem d_Ch_arriveAt_50 : decode b_Ch_arriveAt 50 = .ok (.ifCond .eq 28, 3) := by decide +kernel
theorem d_Ch_arriveAt_53 : decode b_Ch_arriveAt 53 = .ok (.aload_n 0, 1) := by decide +kernel
theorem d_Ch_arriveAt_54 : decode b_Ch_arriveAt 54 = .ok (.getfield 15, 3) := by decide +kernel
theorem d_Ch_arriveAt_57 : decode b_Ch_arriveAt 57 = .ok (.iload_n 2, 1) := by decide +kernel
theorem d_Ch_arriveAt_58 : decode b_Ch_arriveAt 58 = .ok (.aload_n 0, 1) := by decide +kernel
theorem d_Ch_arriveAt_59 : decode b_Ch_arriveAt 59 = .ok (.getfield 21, 3) := by decide +kernel
theorem d_Ch_arriveAt_62 : decode b_Ch_arriveAt 62 = .ok (.invokevirtual 123, 3) := by decide +kernel
theorem d_Ch_arriveAt_65 : decode b_Ch_arriveAt 65 = .ok (.iastore, 1) := by decide +kernel
theorem d_Ch_arriveAt_66 : decode b_Ch_arriveAt 66 = .ok (.aload_n 0, 1) := by decide +kernel
theorem d_Ch_arriveAt_67 : decode b_Ch_arriveAt 67 = .ok (.dup, 1) := by decide +kernel
theorem d_Ch_arriveAt_68 : decode b_Ch_arriveAt 68 = .ok (.getfield 33, 3) := by decide +kernel
theorem d_Ch_arriveAt_71 : decode b_Ch_arriveAt 71 = .ok (.iconst 1, 1) := by decide +kernel
theorem d_Ch_arriveAt_72 : decode b_Ch_arriveAt 72 = .ok (.iload_n 1, 1) := by decide +kernel
theorem d_Ch_arriveAt_73 : decode b_Ch_arriveAt 73 = .ok (.ishl, 1) := by decide +kernel
theorem d_Ch_arriveAt_74 : decode b_Ch_arriveAt 74 = .ok (.ior, 1) := by decide +kernel
theorem d_Ch_arriveAt_75 : decode b_Ch_arriveAt 75 = .ok (.putfield 33, 3) := by decide +kernel
theorem d_Ch_arriveAt_78 : decode b_Ch_arriveAt 78 = .ok (.aload_n 0, 1) := by decide +kernel
theorem d_Ch_arriveAt_79 : decode b_Ch_arriveAt 79 = .ok (.aload_n 0, 1) := by decide +kernel
theorem d_Ch_arriveAt_80 : decode b_Ch_arriveAt 80 = .ok (.getfield 15, 3) := by decide +kernel
theorem d_Ch_arriveAt_83 : decode b_Ch_arriveAt 83 = .ok (.iload_n 2, 1) := by decide +kernel
theorem d_Ch_arriveAt_84 : decode b_Ch_arriveAt 84 = .ok (.iaload, 1) := by decide +kernel
theorem d_Ch_arriveAt_85 : decode b_Ch_arriveAt 85 = .ok (.aload_n 0, 1) := by decide +kernel
theorem d_Ch_arriveAt_86 : decode b_Ch_arriveAt 86 = .ok (.getfield 21, 3) := by decide +kernel
theorem d_Ch_arriveAt_89 : decode b_Ch_arriveAt 89 = .ok (.invokevirtual 123, 3) := by decide +kernel
theorem d_Ch_arriveAt_92 : decode b_Ch_arriveAt 92 = .ok (.if_icmp .ne 7, 3) := by decide +kernel
theorem d_Ch_arriveAt_95 : decode b_Ch_arriveAt 95 = .ok (.iconst 1, 1) := by decide +kernel
theorem d_Ch_arriveAt_96 : decode b_Ch_arriveAt 96 = .ok (.goto 4, 3) := by decide +kernel
theorem d_Ch_arriveAt_99 : decode b_Ch_arriveAt 99 = .ok (.iconst 0, 1) := by decide +kernel
theorem d_Ch_arriveAt_100 : decode b_Ch_arriveAt 100 = .ok (.invokevirtual 126, 3) := by decide +kernel
theorem d_Ch_arriveAt_103 : decode b_Ch_arriveAt 103 = .ok (.iconst 0, 1) := by decide +kernel
theorem d_Ch_arriveAt_104 : decode b_Ch_arriveAt 104 = .ok (.istore 4, 2) := by decide +kernel
theorem d_Ch_arriveAt_106 : decode b_Ch_arriveAt 106 = .ok (.iload 4, 2) := by decide +kernel
theorem d_Ch_arriveAt_108 : decode b_Ch_arriveAt 108 = .ok (.iconst 4, 1) := by decide +kernel
theorem d_Ch_arriveAt_109 : decode b_Ch_arriveAt 109 = .ok (.aload_n 0, 1) := by decide +kernel
theorem d_Ch_arriveAt_110 : decode b_Ch_arriveAt 110 = .ok (.getfield 15, 3) := by decide +kernel
theorem d_Ch_arriveAt_113 : decode b_Ch_arriveAt 113 = .ok (.iload_n 2, 1) := by decide +kernel
theorem d_Ch_arriveAt_114 : decode b_Ch_arriveAt 114 = .ok (.iaload, 1) := by decide +kernel
theorem d_Ch_arriveAt_115 : decode b_Ch_arriveAt 115 = .ok (.iadd, 1) := by decide +kernel
theorem d_Ch_arriveAt_116 : decode b_Ch_arriveAt 116 = .ok (.if_icmp .ge 89, 3) := by decide +kernel
theorem d_Ch_arriveAt_119 : decode b_Ch_arriveAt 119 = .ok (.aload_n 0, 1) := by decide +kernel
theorem d_Ch_arriveAt_120 : decode b_Ch_arriveAt 120 = .ok (.getfield 9, 3) := by decide +kernel
theorem d_Ch_arriveAt_123 : decode b_Ch_arriveAt 123 = .ok (.iload_n 2, 1) := by decide +kernel
theorem d_Ch_arriveAt_124 : decode b_Ch_arriveAt 124 = .ok (.bipush 10, 2) := by decide +kernel
theorem d_Ch_arriveAt_126 : decode b_Ch_arriveAt 126 = .ok (.imul, 1) := by decide +kernel
theorem d_Ch_arriveAt_127 : decode b_Ch_arriveAt 127 = .ok (.iload 4, 2) := by decide +kernel
theorem d_Ch_arriveAt_129 : decode b_Ch_arriveAt 129 = .ok (.iadd, 1) := by decide +kernel
theorem d_Ch_arriveAt_130 : decode b_Ch_arriveAt 130 = .ok (.iaload, 1) := by decide +kernel
theorem d_Ch_arriveAt_131 : decode b_Ch_arriveAt 131 = .ok (.istore 5, 2) := by decide +kernel
theorem d_Ch_arriveAt_133 : decode b_Ch_arriveAt 133 = .ok (.iload_n 3, 1) := by decide +kernel
theorem d_Ch_arriveAt_134 : decode b_Ch_arriveAt 134 = .ok (.ifCond .eq 15, 3) := by decide +kernel
theorem d_Ch_arriveAt_137 : decode b_Ch_arriveAt 137 = .ok (.aload_n 0, 1) := by decide +kernel
theorem d_Ch_arriveAt_138 : decode b_Ch_arriveAt 138 = .ok (.getfield 21, 3) := by decide +kernel
theorem d_Ch_arriveAt_141 : decode b_Ch_arriveAt 141 = .ok (.iload 4, 2) := by decide +kernel
theorem d_Ch_arriveAt_143 : decode b_Ch_arriveAt 143 = .ok (.invokevirtual 130, 3) := by decide +kernel
theorem d_Ch_arriveAt_146 : decode b_Ch_arriveAt 146 = .ok (.goto 18, 3) := by decide +kernel
theorem d_Ch_arriveAt_149 : decode b_Ch_arriveAt 149 = .ok (.aload_n 0, 1) := by decide +kernel
theorem d_Ch_arriveAt_150 : decode b_Ch_arriveAt 150 = .ok (.iload 5, 2) := by decide +kernel
theorem d_Ch_arriveAt_152 : decode b_Ch_arriveAt 152 = .ok (.aload_n 0, 1) := by decide +kernel
theorem d_Ch_arriveAt_153 : decode b_Ch_arriveAt 153 = .ok (.getfield 21, 3) := by decide +kernel
theorem d_Ch_arriveAt_156 : decode b_Ch_arriveAt 156 = .ok (.iload 4, 2) := by decide +kernel
theorem d_Ch_arriveAt_158 : decode b_Ch_arriveAt 158 = .ok (.invokevirtual 130, 3) := by decide +kernel
theorem d_Ch_arriveAt_161 : decode b_Ch_arriveAt 161 = .ok (.invokevirtual 133, 3) := by decide +kernel
theorem d_Ch_arriveAt_164 : decode b_Ch_arriveAt 164 = .ok (.istore 6, 2) := by decide +kernel
theorem d_Ch_arriveAt_166 : decode b_Ch_arriveAt 166 = .ok (.iload 6, 2) := by decide +kernel
theorem d_Ch_arriveAt_168 : decode b_Ch_arriveAt 168 = .ok (.iload 5, 2) := by decide +kernel
theorem d_Ch_arriveAt_170 : decode b_Ch_arriveAt 170 = .ok (.if_icmp .eq 29, 3) := by decide +kernel
theorem d_Ch_arriveAt_173 : decode b_Ch_arriveAt 173 = .ok (.aload_n 0, 1) := by decide +kernel
theorem d_Ch_arriveAt_174 : decode b_Ch_arriveAt 174 = .ok (.getfield 9, 3) := by decide +kernel
theorem d_Ch_arriveAt_177 : decode b_Ch_arriveAt 177 = .ok (.iload_n 2, 1) := by decide +kernel
theorem d_Ch_arriveAt_178 : decode b_Ch_arriveAt 178 = .ok (.bipush 10, 2) := by decide +kernel
theorem d_Ch_arriveAt_180 : decode b_Ch_arriveAt 180 = .ok (.imul, 1) := by decide +kernel
theorem d_Ch_arriveAt_181 : decode b_Ch_arriveAt 181 = .ok (.iload 4, 2) := by decide +kernel
theorem d_Ch_arriveAt_183 : decode b_Ch_arriveAt 183 = .ok (.iadd, 1) := by decide +kernel
theorem d_Ch_arriveAt_184 : decode b_Ch_arriveAt 184 = .ok (.iload 6, 2) := by decide +kernel
theorem d_Ch_arriveAt_186 : decode b_Ch_arriveAt 186 = .ok (.iastore, 1) := by decide +kernel
theorem d_Ch_arriveAt_187 : decode b_Ch_arriveAt 187 = .ok (.aload_n 0, 1) := by decide +kernel
theorem d_Ch_arriveAt_188 : decode b_Ch_arriveAt 188 = .ok (.dup, 1) := by decide +kernel
theorem d_Ch_arriveAt_189 : decode b_Ch_arriveAt 189 = .ok (.getfield 33, 3) := by decide +kernel
theorem d_Ch_arriveAt_192 : decode b_Ch_arriveAt 192 = .ok (.iconst 1, 1) := by decide +kernel
theorem d_Ch_arriveAt_193 : decode b_Ch_arriveAt 193 = .ok (.iload_n 1, 1) := by decide +kernel
theorem d_Ch_arriveAt_194 : decode b_Ch_arriveAt 194 = .ok (.ishl, 1) := by decide +kernel
theorem d_Ch_arriveAt_195 : decode b_Ch_arriveAt 195 = .ok (.ior, 1) := by decide +kernel
theorem d_Ch_arriveAt_196 : decode b_Ch_arriveAt 196 = .ok (.putfield 33, 3) := by decide +kernel
theorem d_Ch_arriveAt_199 : decode b_Ch_arriveAt 199 = .ok (.iinc 4 1, 3) := by decide +kernel
theorem d_Ch_arriveAt_202 : decode b_Ch_arriveAt 202 = .ok (.goto (-96), 3) := by decide +kernel
theorem d_Ch_arriveAt_205 : decode b_Ch_arriveAt 205 = .ok (.return_, 1) := by decide +kernel
theorem d_Pr_lengthOf_0 : decode b_Pr_lengthOf 0 = .ok (.aload_n 0, 1) := by decide +kernel
theorem d_Pr_lengthOf_1 : decode b_Pr_lengthOf 1 = .ok (.iload_n 1, 1) := by decide +kernel
theorem d_Pr_lengthOf_2 : decode b_Pr_lengthOf 2 = .ok (.invokevirtual 87, 3) := by decide +kernel
theorem d_Pr_lengthOf_5 : decode b_Pr_lengthOf 5 = .ok (.ifCond .eq 12, 3) := by decide +kernel
theorem d_Pr_lengthOf_8 : decode b_Pr_lengthOf 8 = .ok (.aload_n 0, 1) := by decide +kernel
theorem d_Pr_lengthOf_9 : decode b_Pr_lengthOf 9 = .ok (.getfield 35, 3) := by decide +kernel
theorem d_Pr_lengthOf_12 : decode b_Pr_lengthOf 12 = .ok (.iload_n 1, 1) := by decide +kernel
theorem d_Pr_lengthOf_13 : decode b_Pr_lengthOf 13 = .ok (.iaload, 1) := by decide +kernel
theorem d_Pr_lengthOf_14 : decode b_Pr_lengthOf 14 = .ok (.goto 4, 3) := by decide +kernel
theorem d_Pr_lengthOf_17 : decode b_Pr_lengthOf 17 = .ok (.iconst 0, 1) := by decide +kernel
theorem d_Pr_lengthOf_18 : decode b_Pr_lengthOf 18 = .ok (.ireturn, 1) := by decide +kernel
theorem d_Fr_size_0 : decode b_Fr_size 0 = .ok (.aload_n 0, 1) := by decide +kernel
theorem d_Fr_size_1 : decode b_Fr_size 1 = .ok (.getfield 21, 3) := by decide +kernel
theorem d_Fr_size_4 : decode b_Fr_size 4 = .ok (.ireturn, 1) := by decide +kernel
theorem d_Ch_need_0 : decode b_Ch_need 0 = .ok (.aload_n 0, 1) := by decide +kernel
theorem d_Ch_need_1 : decode b_Ch_need 1 = .ok (.aload_n 0, 1) := by decide +kernel
theorem d_Ch_need_2 : decode b_Ch_need 2 = .ok (.getfield 36, 3) := by decide +kernel
theorem d_Ch_need_5 : decode b_Ch_need 5 = .ok (.ifCond .eq 11, 3) := by decide +kernel
theorem d_Ch_need_8 : decode b_Ch_need 8 = .ok (.iload_n 1, 1) := by decide +kernel
theorem d_Ch_need_9 : decode b_Ch_need 9 = .ok (.ifCond .eq 7, 3) := by decide +kernel
theorem d_Ch_need_12 : decode b_Ch_need 12 = .ok (.iconst 1, 1) := by decide +kernel
theorem d_Ch_need_13 : decode b_Ch_need 13 = .ok (.goto 4, 3) := by decide +kernel
theorem d_Ch_need_16 : decode b_Ch_need 16 = .ok (.iconst 0, 1) := by decide +kernel
theorem d_Ch_need_17 : decode b_Ch_need 17 = .ok (.putfield 36, 3) := by decide +kernel
theorem d_Ch_need_20 : decode b_Ch_need 20 = .ok (.return_, 1) := by decide +kernel
theorem d_Fr_place_0 : decode b_Fr_place 0 = .ok (.iload_n 1, 1) := by decide +kernel
theorem d_Fr_place_1 : decode b_Fr_place 1 = .ok (.bipush 10, 2) := by decide +kernel
theorem d_Fr_place_3 : decode b_Fr_place 3 = .ok (.invokestatic 43, 3) := by decide +kernel
theorem d_Fr_place_6 : decode b_Fr_place 6 = .ok (.ifCond .eq 12, 3) := by decide +kernel
theorem d_Fr_place_9 : decode b_Fr_place 9 = .ok (.aload_n 0, 1) := by decide +kernel
theorem d_Fr_place_10 : decode b_Fr_place 10 = .ok (.getfield 9, 3) := by decide +kernel
theorem d_Fr_place_13 : decode b_Fr_place 13 = .ok (.iload_n 1, 1) := by decide +kernel
theorem d_Fr_place_14 : decode b_Fr_place 14 = .ok (.iaload, 1) := by decide +kernel
theorem d_Fr_place_15 : decode b_Fr_place 15 = .ok (.goto 5, 3) := by decide +kernel
theorem d_Fr_place_18 : decode b_Fr_place 18 = .ok (.bipush 8, 2) := by decide +kernel
theorem d_Fr_place_20 : decode b_Fr_place 20 = .ok (.ireturn, 1) := by decide +kernel
theorem d_Ch_join_0 : decode b_Ch_join 0 = .ok (.iload_n 1, 1) := by decide +kernel
theorem d_Ch_join_1 : decode b_Ch_join 1 = .ok (.iload_n 2, 1) := by decide +kernel
theorem d_Ch_join_2 : decode b_Ch_join 2 = .ok (.if_icmp .ne 5, 3) := by decide +kernel
theorem d_Ch_join_5 : decode b_Ch_join 5 = .ok (.iload_n 1, 1) := by decide +kernel
theorem d_Ch_join_6 : decode b_Ch_join 6 = .ok (.ireturn, 1) := by decide +kernel
theorem d_Ch_join_7 : decode b_Ch_join 7 = .ok (.aload_n 0, 1) := by decide +kernel
theorem d_Ch_join_8 : decode b_Ch_join 8 = .ok (.getfield 25, 3) := by decide +kernel
theorem d_Ch_join_11 : decode b_Ch_join 11 = .ok (.iload_n 1, 1) := by decide +kernel
theorem d_Ch_join_12 : decode b_Ch_join 12 = .ok (.iload_n 2, 1) := by decide +kernel
theorem d_Ch_join_13 : decode b_Ch_join 13 = .ok (.invokevirtual 136, 3) := by decide +kernel
theorem d_Ch_join_16 : decode b_Ch_join 16 = .ok (.istore_n 3, 1) := by decide +kernel
theorem d_Ch_join_17 : decode b_Ch_join 17 = .ok (.iload_n 3, 1) := by decide +kernel
theorem d_Ch_join_18 : decode b_Ch_join 18 = .ok (.iconst (-1), 1) := by decide +kernel
theorem d_Ch_join_19 : decode b_Ch_join 19 = .ok (.if_icmp .ne 8, 3) := by decide +kernel
theorem d_Ch_join_22 : decode b_Ch_join 22 = .ok (.bipush 8, 2) := by decide +kernel
theorem d_Ch_join_24 : decode b_Ch_join 24 = .ok (.goto 4, 3) := by decide +kernel
theorem d_Ch_join_27 : decode b_Ch_join 27 = .ok (.iload_n 3, 1) := by decide +kernel
theorem d_Ch_join_28 : decode b_Ch_join 28 = .ok (.ireturn, 1) := by decide +kernel
theorem d_Pr_nearestCommon_0 : decode b_Pr_nearestCommon 0 = .ok (.aload_n 0, 1) := by decide +kernel
theorem d_Pr_nearestCommon_1 : decode b_Pr_nearestCommon 1 = .ok (.iload_n 1, 1) := by decide +kernel
theorem d_Pr_nearestCommon_2 : decode b_Pr_nearestCommon 2 = .ok (.invokevirtual 68, 3) := by decide +kernel
theorem d_Pr_nearestCommon_5 : decode b_Pr_nearestCommon 5 = .ok (.aload_n 0, 1) := by decide +kernel
theorem d_Pr_nearestCommon_6 : decode b_Pr_nearestCommon 6 = .ok (.iload_n 2, 1) := by decide +kernel
theorem d_Pr_nearestCommon_7 : decode b_Pr_nearestCommon 7 = .ok (.invokevirtual 68, 3) := by decide +kernel
theorem d_Pr_nearestCommon_10 : decode b_Pr_nearestCommon 10 = .ok (.iand, 1) := by decide +kernel
theorem d_Pr_nearestCommon_11 : decode b_Pr_nearestCommon 11 = .ok (.istore_n 3, 1) := by decide +kernel
theorem d_Pr_nearestCommon_12 : decode b_Pr_nearestCommon 12 = .ok (.iconst 5, 1) := by decide +kernel
theorem d_Pr_nearestCommon_13 : decode b_Pr_nearestCommon 13 = .ok (.istore 4, 2) := by decide +kernel
theorem d_Pr_nearestCommon_15 : decode b_Pr_nearestCommon 15 = .ok (.iload 4, 2) := by decide +kernel
theorem d_Pr_nearestCommon_17 : decode b_Pr_nearestCommon 17 = .ok (.ifCond .lt 21, 3) := by decide +kernel
theorem d_Pr_nearestCommon_20 : decode b_Pr_nearestCommon 20 = .ok (.iload_n 3, 1) := by decide +kernel
theorem d_Pr_nearestCommon_21 : decode b_Pr_nearestCommon 21 = .ok (.iload 4, 2) := by decide +kernel
theorem d_Pr_nearestCommon_23 : decode b_Pr_nearestCommon 23 = .ok (.invokestatic 95, 3) := by decide +kernel
theorem d_Pr_nearestCommon_26 : decode b_Pr_nearestCommon 26 = .ok (.ifCond .eq 6, 3) := by decide +kernel
theorem d_Pr_nearestCommon_29 : decode b_Pr_nearestCommon 29 = .ok (.iload 4, 2) := by decide +kernel
theorem d_Pr_nearestCommon_31 : decode b_Pr_nearestCommon 31 = .ok (.ireturn, 1) := by decide +kernel
theorem d_Pr_nearestCommon_32 : decode b_Pr_nearestCommon 32 = .ok (.iinc 4 (-1), 3) := by decide +kernel
theorem d_Pr_nearestCommon_35 : decode b_Pr_nearestCommon 35 = .ok (.goto (-20), 3) := by decide +kernel
theorem d_Pr_nearestCommon_38 : decode b_Pr_nearestCommon 38 = .ok (.iconst (-1), 1) := by decide +kernel
theorem d_Pr_nearestCommon_39 : decode b_Pr_nearestCommon 39 = .ok (.ireturn, 1) := by decide +kernel
theorem d_Cw_has_0 : decode b_Cw_has 0 = .ok (.iload_n 0, 1) := by decide +kernel
theorem d_Cw_has_1 : decode b_Cw_has 1 = .ok (.iload_n 1, 1) := by decide +kernel
theorem d_Cw_has_2 : decode b_Cw_has 2 = .ok (.ishr, 1) := by decide +kernel
theorem d_Cw_has_3 : decode b_Cw_has 3 = .ok (.iconst 1, 1) := by decide +kernel
theorem d_Cw_has_4 : decode b_Cw_has 4 = .ok (.iand, 1) := by decide +kernel
theorem d_Cw_has_5 : decode b_Cw_has 5 = .ok (.ifCond .eq 7, 3) := by decide +kernel
theorem d_Cw_has_8 : decode b_Cw_has 8 = .ok (.iconst 1, 1) := by decide +kernel
theorem d_Cw_has_9 : decode b_Cw_has 9 = .ok (.goto 4, 3) := by decide +kernel
theorem d_Cw_has_12 : decode b_Cw_has 12 = .ok (.iconst 0, 1) := by decide +kernel
theorem d_Cw_has_13 : decode b_Cw_has 13 = .ok (.ireturn, 1) := by decide +kernel
theorem d_Ch_firstWaiting_0 : decode b_Ch_firstWaiting 0 = .ok (.iconst 0, 1) := by decide +kernel
theorem d_Ch_firstWaiting_1 : decode b_Ch_firstWaiting 1 = .ok (.istore_n 1, 1) := by decide +kernel
theorem d_Ch_firstWaiting_2 : decode b_Ch_firstWaiting 2 = .ok (.iload_n 1, 1) := by decide +kernel
theorem d_Ch_firstWaiting_3 : decode b_Ch_firstWaiting 3 = .ok (.bipush 19, 2) := by decide +kernel
theorem d_Ch_firstWaiting_5 : decode b_Ch_firstWaiting 5 = .ok (.if_icmp .ge 20, 3) := by decide +kernel
theorem d_Ch_firstWaiting_8 : decode b_Ch_firstWaiting 8 = .ok (.aload_n 0, 1) := by decide +kernel
theorem d_Ch_firstWaiting_9 : decode b_Ch_firstWaiting 9 = .ok (.getfield 33, 3) := by decide +kernel
theorem d_Ch_firstWaiting_12 : decode b_Ch_firstWaiting 12 = .ok (.iload_n 1, 1) := by decide +kernel
theorem d_Ch_firstWaiting_13 : decode b_Ch_firstWaiting 13 = .ok (.invokestatic 94, 3) := by decide +kernel
theorem d_Ch_firstWaiting_16 : decode b_Ch_firstWaiting 16 = .ok (.ifCond .ne 9, 3) := by decide +kernel
theorem d_Ch_firstWaiting_19 : decode b_Ch_firstWaiting 19 = .ok (.iinc 1 1, 3) := by decide +kernel
theorem d_Ch_firstWaiting_22 : decode b_Ch_firstWaiting 22 = .ok (.goto (-20), 3) := by decide +kernel
theorem d_Ch_firstWaiting_25 : decode b_Ch_firstWaiting 25 = .ok (.iload_n 1, 1) := by decide +kernel
theorem d_Ch_firstWaiting_26 : decode b_Ch_firstWaiting 26 = .ok (.ireturn, 1) := by decide +kernel
theorem d_Ch_visit_0 : decode b_Ch_visit 0 = .ok (.aload_n 0, 1) := by decide +kernel
theorem d_Ch_visit_1 : decode b_Ch_visit 1 = .ok (.dup, 1) := by decide +kernel
theorem d_Ch_visit_2 : decode b_Ch_visit 2 = .ok (.getfield 33, 3) := by decide +kernel
theorem d_Ch_visit_5 : decode b_Ch_visit 5 = .ok (.iconst 1, 1) := by decide +kernel
theorem d_Ch_visit_6 : decode b_Ch_visit 6 = .ok (.iload_n 1, 1) := by decide +kernel
theorem d_Ch_visit_7 : decode b_Ch_visit 7 = .ok (.ishl, 1) := by decide +kernel
theorem d_Ch_visit_8 : decode b_Ch_visit 8 = .ok (.iconst (-1), 1) := by decide +kernel
theorem d_Ch_visit_9 : decode b_Ch_visit 9 = .ok (.ixor, 1) := by decide +kernel
theorem d_Ch_visit_10 : decode b_Ch_visit 10 = .ok (.iand, 1) := by decide +kernel
theorem d_Ch_visit_11 : decode b_Ch_visit 11 = .ok (.putfield 33, 3) := by decide +kernel
theorem d_Ch_visit_14 : decode b_Ch_visit 14 = .ok (.aload_n 0, 1) := by decide +kernel
theorem d_Ch_visit_15 : decode b_Ch_visit 15 = .ok (.getfield 25, 3) := by decide +kernel
theorem d_Ch_visit_18 : decode b_Ch_visit 18 = .ok (.aload_n 0, 1) := by decide +kernel
theorem d_Ch_visit_19 : decode b_Ch_visit 19 = .ok (.getfield 29, 3) := by decide +kernel
theorem d_Ch_visit_22 : decode b_Ch_visit 22 = .ok (.iload_n 1, 1) := by decide +kernel
theorem d_Ch_visit_23 : decode b_Ch_visit 23 = .ok (.invokevirtual 97, 3) := by decide +kernel
theorem d_Ch_visit_26 : decode b_Ch_visit 26 = .ok (.istore_n 2, 1) := by decide +kernel
theorem d_Ch_visit_27 : decode b_Ch_visit 27 = .ok (.iload_n 2, 1) := by decide +kernel
theorem d_Ch_visit_28 : decode b_Ch_visit 28 = .ok (.iconst (-1), 1) := by decide +kernel
theorem d_Ch_visit_29 : decode b_Ch_visit 29 = .ok (.if_icmp .eq 23, 3) := by decide +kernel
theorem d_Ch_visit_32 : decode b_Ch_visit 32 = .ok (.aload_n 0, 1) := by decide +kernel
theorem d_Ch_visit_33 : decode b_Ch_visit 33 = .ok (.iload_n 1, 1) := by decide +kernel
theorem d_Ch_visit_34 : decode b_Ch_visit 34 = .ok (.invokevirtual 100, 3) := by decide +kernel
theorem d_Ch_visit_37 : decode b_Ch_visit 37 = .ok (.aload_n 0, 1) := by decide +kernel
theorem d_Ch_visit_38 : decode b_Ch_visit 38 = .ok (.getfield 21, 3) := by decide +kernel
theorem d_Ch_visit_41 : decode b_Ch_visit 41 = .ok (.iload_n 2, 1) := by decide +kernel
theorem d_Ch_visit_42 : decode b_Ch_visit 42 = .ok (.bipush 9, 2) := by decide +kernel
theorem d_Ch_visit_44 : decode b_Ch_visit 44 = .ok (.invokevirtual 103, 3) := by decide +kernel
theorem d_Ch_visit_47 : decode b_Ch_visit 47 = .ok (.aload_n 0, 1) := by decide +kernel
theorem d_Ch_visit_48 : decode b_Ch_visit 48 = .ok (.iload_n 2, 1) := by decide +kernel
theorem d_Ch_visit_49 : decode b_Ch_visit 49 = .ok (.invokevirtual 91, 3) := by decide +kernel
theorem d_Ch_visit_52 : decode b_Ch_visit 52 = .ok (.aload_n 0, 1) := by decide +kernel
theorem d_Ch_visit_53 : decode b_Ch_visit 53 = .ok (.iload_n 1, 1) := by decide +kernel
theorem d_Ch_visit_54 : decode b_Ch_visit 54 = .ok (.invokevirtual 100, 3) := by decide +kernel
theorem d_Ch_visit_57 : decode b_Ch_visit 57 = .ok (.aload_n 0, 1) := by decide +kernel
theorem d_Ch_visit_58 : decode b_Ch_visit 58 = .ok (.getfield 25, 3) := by decide +kernel
theorem d_Ch_visit_61 : decode b_Ch_visit 61 = .ok (.aload_n 0, 1) := by decide +kernel
theorem d_Ch_visit_62 : decode b_Ch_visit 62 = .ok (.getfield 29, 3) := by decide +kernel
theorem d_Ch_visit_65 : decode b_Ch_visit 65 = .ok (.iload_n 1, 1) := by decide +kernel
theorem d_Ch_visit_66 : decode b_Ch_visit 66 = .ok (.invokevirtual 106, 3) := by decide +kernel
theorem d_Ch_visit_69 : decode b_Ch_visit 69 = .ok (.istore_n 3, 1) := by decide +kernel
theorem d_Ch_visit_70 : decode b_Ch_visit 70 = .ok (.aload_n 0, 1) := by decide +kernel
theorem d_Ch_visit_71 : decode b_Ch_visit 71 = .ok (.getfield 25, 3) := by decide +kernel
theorem d_Ch_visit_74 : decode b_Ch_visit 74 = .ok (.aload_n 0, 1) := by decide +kernel
theorem d_Ch_visit_75 : decode b_Ch_visit 75 = .ok (.getfield 29, 3) := by decide +kernel
theorem d_Ch_visit_78 : decode b_Ch_visit 78 = .ok (.iload_n 1, 1) := by decide +kernel
theorem d_Ch_visit_79 : decode b_Ch_visit 79 = .ok (.invokevirtual 109, 3) := by decide +kernel
theorem d_Ch_visit_82 : decode b_Ch_visit 82 = .ok (.istore 4, 2) := by decide +kernel
theorem d_Ch_visit_84 : decode b_Ch_visit 84 = .ok (.aload_n 0, 1) := by decide +kernel
theorem d_Ch_visit_85 : decode b_Ch_visit 85 = .ok (.iload_n 3, 1) := by decide +kernel
theorem d_Ch_visit_86 : decode b_Ch_visit 86 = .ok (.iload 4, 2) := by decide +kernel
theorem d_Ch_visit_88 : decode b_Ch_visit 88 = .ok (.invokevirtual 112, 3) := by decide +kernel
theorem d_Ch_visit_91 : decode b_Ch_visit 91 = .ok (.iload_n 3, 1) := by decide +kernel
theorem d_Ch_visit_92 : decode b_Ch_visit 92 = .ok (.bipush 9, 2) := by decide +kernel
theorem d_Ch_visit_94 : decode b_Ch_visit 94 = .ok (.if_icmp .eq 9, 3) := by decide +kernel
theorem d_Ch_visit_97 : decode b_Ch_visit 97 = .ok (.iload_n 3, 1) := by decide +kernel
theorem d_Ch_visit_98 : decode b_Ch_visit 98 = .ok (.bipush 10, 2) := by decide +kernel
theorem d_Ch_visit_100 : decode b_Ch_visit 100 = .ok (.if_icmp .ne 9, 3) := by decide +kernel
theorem d_Ch_visit_103 : decode b_Ch_visit 103 = .ok (.aload_n 0, 1) := by decide +kernel
theorem d_Ch_visit_104 : decode b_Ch_visit 104 = .ok (.iload 4, 2) := by decide +kernel
theorem d_Ch_visit_106 : decode b_Ch_visit 106 = .ok (.invokevirtual 91, 3) := by decide +kernel
theorem d_Ch_visit_109 : decode b_Ch_visit 109 = .ok (.iload_n 3, 1) := by decide +kernel
theorem d_Ch_visit_110 : decode b_Ch_visit 110 = .ok (.bipush 9, 2) := by decide +kernel
theorem d_Ch_visit_112 : decode b_Ch_visit 112 = .ok (.if_icmp .eq 22, 3) := by decide +kernel
theorem d_Ch_visit_115 : decode b_Ch_visit 115 = .ok (.iload_n 3, 1) := by decide +kernel
theorem d_Ch_visit_116 : decode b_Ch_visit 116 = .ok (.bipush 21, 2) := by decide +kernel
theorem d_Ch_visit_118 : decode b_Ch_visit 118 = .ok (.if_icmp .eq 16, 3) := by decide +kernel
theorem d_Ch_visit_121 : decode b_Ch_visit 121 = .ok (.iload_n 3, 1) := by decide +kernel
theorem d_Ch_visit_122 : decode b_Ch_visit 122 = .ok (.bipush 22, 2) := by decide +kernel
theorem d_Ch_visit_124 : decode b_Ch_visit 124 = .ok (.if_icmp .eq 10, 3) := by decide +kernel
theorem d_Ch_visit_127 : decode b_Ch_visit 127 = .ok (.aload_n 0, 1) := by decide +kernel
theorem d_Ch_visit_128 : decode b_Ch_visit 128 = .ok (.iload_n 1, 1) := by decide +kernel
theorem d_Ch_visit_129 : decode b_Ch_visit 129 = .ok (.iconst 1, 1) := by decide +kernel
theorem d_Ch_visit_130 : decode b_Ch_visit 130 = .ok (.iadd, 1) := by decide +kernel
theorem d_Ch_visit_131 : decode b_Ch_visit 131 = .ok (.invokevirtual 91, 3) := by decide +kernel
theorem d_Ch_visit_134 : decode b_Ch_visit 134 = .ok (.return_, 1) := by decide +kernel
theorem d_Pr_handlerOf_0 : decode b_Pr_handlerOf 0 = .ok (.aload_n 0, 1) := by decide +kernel
theorem d_Pr_handlerOf_1 : decode b_Pr_handlerOf 1 = .ok (.iload_n 1, 1) := by decide +kernel
theorem d_Pr_handlerOf_2 : decode b_Pr_handlerOf 2 = .ok (.invokevirtual 87, 3) := by decide +kernel
theorem d_Pr_handlerOf_5 : decode b_Pr_handlerOf 5 = .ok (.ifCond .ne 5, 3) := by decide +kernel
theorem d_Pr_handlerOf_8 : decode b_Pr_handlerOf 8 = .ok (.iconst (-1), 1) := by decide +kernel
theorem d_Pr_handlerOf_9 : decode b_Pr_handlerOf 9 = .ok (.ireturn, 1) := by decide +kernel
theorem d_Pr_handlerOf_10 : decode b_Pr_handlerOf 10 = .ok (.iconst 0, 1) := by decide +kernel
theorem d_Pr_handlerOf_11 : decode b_Pr_handlerOf 11 = .ok (.istore_n 3, 1) := by decide +kernel
theorem d_Pr_handlerOf_12 : decode b_Pr_handlerOf 12 = .ok (.iload_n 3, 1) := by decide +kernel
theorem d_Pr_handlerOf_13 : decode b_Pr_handlerOf 13 = .ok (.aload_n 0, 1) := by decide +kernel
theorem d_Pr_handlerOf_14 : decode b_Pr_handlerOf 14 = .ok (.getfield 44, 3) := by decide +kernel
theorem d_Pr_handlerOf_17 : decode b_Pr_handlerOf 17 = .ok (.iload_n 1, 1) := by decide +kernel
theorem d_Pr_handlerOf_18 : decode b_Pr_handlerOf 18 = .ok (.iaload, 1) := by decide +kernel
theorem d_Pr_handlerOf_19 : decode b_Pr_handlerOf 19 = .ok (.if_icmp .ge 42, 3) := by decide +kernel
theorem d_Pr_handlerOf_22 : decode b_Pr_handlerOf 22 = .ok (.aload_n 0, 1) := by decide +kernel
theorem d_Pr_handlerOf_23 : decode b_Pr_handlerOf 23 = .ok (.getfield 47, 3) := by decide +kernel
theorem d_Pr_handlerOf_26 : decode b_Pr_handlerOf 26 = .ok (.iload_n 1, 1) := by decide +kernel
theorem d_Pr_handlerOf_27 : decode b_Pr_handlerOf 27 = .ok (.aaload, 1) := by decide +kernel
theorem d_Pr_handlerOf_28 : decode b_Pr_handlerOf 28 = .ok (.iload_n 3, 1) := by decide +kernel
theorem d_Pr_handlerOf_29 : decode b_Pr_handlerOf 29 = .ok (.iaload, 1) := by decide +kernel
theorem d_Pr_handlerOf_30 : decode b_Pr_handlerOf 30 = .ok (.iload_n 2, 1) := by decide +kernel
theorem d_Pr_handlerOf_31 : decode b_Pr_handlerOf 31 = .ok (.if_icmp .gt 24, 3) := by decide +kernel
theorem d_Pr_handlerOf_34 : decode b_Pr_handlerOf 34 = .ok (.iload_n 2, 1) := by decide +kernel
theorem d_Pr_handlerOf_35 : decode b_Pr_handlerOf 35 = .ok (.aload_n 0, 1) := by decide +kernel
theorem d_Pr_handlerOf_36 : decode b_Pr_handlerOf 36 = .ok (.getfield 50, 3) := by decide +kernel
theorem d_Pr_handlerOf_39 : decode b_Pr_handlerOf 39 = .ok (.iload_n 1, 1) := by decide +kernel
theorem d_Pr_handlerOf_40 : decode b_Pr_handlerOf 40 = .ok (.aaload, 1) := by decide +kernel
theorem d_Pr_handlerOf_41 : decode b_Pr_handlerOf 41 = .ok (.iload_n 3, 1) := by decide +kernel
theorem d_Pr_handlerOf_42 : decode b_Pr_handlerOf 42 = .ok (.iaload, 1) := by decide +kernel
theorem d_Pr_handlerOf_43 : decode b_Pr_handlerOf 43 = .ok (.if_icmp .ge 12, 3) := by decide +kernel
theorem d_Pr_handlerOf_46 : decode b_Pr_handlerOf 46 = .ok (.aload_n 0, 1) := by decide +kernel
theorem d_Pr_handlerOf_47 : decode b_Pr_handlerOf 47 = .ok (.getfield 53, 3) := by decide +kernel
theorem d_Pr_handlerOf_50 : decode b_Pr_handlerOf 50 = .ok (.iload_n 1, 1) := by decide +kernel
theorem d_Pr_handlerOf_51 : decode b_Pr_handlerOf 51 = .ok (.aaload, 1) := by decide +kernel
theorem d_Pr_handlerOf_52 : decode b_Pr_handlerOf 52 = .ok (.iload_n 3, 1) := by decide +kernel
theorem d_Pr_handlerOf_53 : decode b_Pr_handlerOf 53 = .ok (.iaload, 1) := by decide +kernel
theorem d_Pr_handlerOf_54 : decode b_Pr_handlerOf 54 = .ok (.ireturn, 1) := by decide +kernel
theorem d_Pr_handlerOf_55 : decode b_Pr_handlerOf 55 = .ok (.iinc 3 1, 3) := by decide +kernel
theorem d_Pr_handlerOf_58 : decode b_Pr_handlerOf 58 = .ok (.goto (-46), 3) := by decide +kernel
theorem d_Pr_handlerOf_61 : decode b_Pr_handlerOf 61 = .ok (.iconst (-1), 1) := by decide +kernel
theorem d_Pr_handlerOf_62 : decode b_Pr_handlerOf 62 = .ok (.ireturn, 1) := by decide +kernel
theorem d_Ch_recall_0 : decode b_Ch_recall 0 = .ok (.aload_n 0, 1) := by decide +kernel
theorem d_Ch_recall_1 : decode b_Ch_recall 1 = .ok (.getfield 29, 3) := by decide +kernel
theorem d_Ch_recall_4 : decode b_Ch_recall 4 = .ok (.iload_n 1, 1) := by decide +kernel
theorem d_Ch_recall_5 : decode b_Ch_recall 5 = .ok (.invokestatic 40, 3) := by decide +kernel
theorem d_Ch_recall_8 : decode b_Ch_recall 8 = .ok (.istore_n 2, 1) := by decide +kernel
theorem d_Ch_recall_9 : decode b_Ch_recall 9 = .ok (.aload_n 0, 1) := by decide +kernel
theorem d_Ch_recall_10 : decode b_Ch_recall 10 = .ok (.getfield 21, 3) := by decide +kernel
theorem d_Ch_recall_13 : decode b_Ch_recall 13 = .ok (.aload_n 0, 1) := by decide +kernel
theorem d_Ch_recall_14 : decode b_Ch_recall 14 = .ok (.getfield 15, 3) := by decide +kernel
theorem d_Ch_recall_17 : decode b_Ch_recall 17 = .ok (.iload_n 2, 1) := by decide +kernel
theorem d_Ch_recall_18 : decode b_Ch_recall 18 = .ok (.iaload, 1) := by decide +kernel
theorem d_Ch_recall_19 : decode b_Ch_recall 19 = .ok (.invokevirtual 117, 3) := by decide +kernel
theorem d_Ch_recall_22 : decode b_Ch_recall 22 = .ok (.iconst 0, 1) := by decide +kernel
theorem d_Ch_recall_23 : decode b_Ch_recall 23 = .ok (.istore_n 3, 1) := by decide +kernel
theorem d_Ch_recall_24 : decode b_Ch_recall 24 = .ok (.iload_n 3, 1) := by decide +kernel
theorem d_Ch_recall_25 : decode b_Ch_recall 25 = .ok (.iconst 4, 1) := by decide +kernel
theorem d_Ch_recall_26 : decode b_Ch_recall 26 = .ok (.aload_n 0, 1) := by decide +kernel
theorem d_Ch_recall_27 : decode b_Ch_recall 27 = .ok (.getfield 15, 3) := by decide +kernel
theorem d_Ch_recall_30 : decode b_Ch_recall 30 = .ok (.iload_n 2, 1) := by decide +kernel
theorem d_Ch_recall_31 : decode b_Ch_recall 31 = .ok (.iaload, 1) := by decide +kernel
theorem d_Ch_recall_32 : decode b_Ch_recall 32 = .ok (.iadd, 1) := by decide +kernel
theorem d_Ch_recall_33 : decode b_Ch_recall 33 = .ok (.if_icmp .ge 28, 3) := by decide +kernel
theorem d_Ch_recall_36 : decode b_Ch_recall 36 = .ok (.aload_n 0, 1) := by decide +kernel
theorem d_Ch_recall_37 : decode b_Ch_recall 37 = .ok (.getfield 21, 3) := by decide +kernel
theorem d_Ch_recall_40 : decode b_Ch_recall 40 = .ok (.iload_n 3, 1) := by decide +kernel
theorem d_Ch_recall_41 : decode b_Ch_recall 41 = .ok (.aload_n 0, 1) := by decide +kernel
theorem d_Ch_recall_42 : decode b_Ch_recall 42 = .ok (.getfield 9, 3) := by decide +kernel
theorem d_Ch_recall_45 : decode b_Ch_recall 45 = .ok (.iload_n 2, 1) := by decide +kernel
theorem d_Ch_recall_46 : decode b_Ch_recall 46 = .ok (.bipush 10, 2) := by decide +kernel
theorem d_Ch_recall_48 : decode b_Ch_recall 48 = .ok (.imul, 1) := by decide +kernel
theorem d_Ch_recall_49 : decode b_Ch_recall 49 = .ok (.iload_n 3, 1) := by decide +kernel
theorem d_Ch_recall_50 : decode b_Ch_recall 50 = .ok (.iadd, 1) := by decide +kernel
theorem d_Ch_recall_51 : decode b_Ch_recall 51 = .ok (.iaload, 1) := by decide +kernel
theorem d_Ch_recall_52 : decode b_Ch_recall 52 = .ok (.invokevirtual 81, 3) := by decide +kernel
theorem d_Ch_recall_55 : decode b_Ch_recall 55 = .ok (.iinc 3 1, 3) := by decide +kernel
theorem d_Ch_recall_58 : decode b_Ch_recall 58 = .ok (.goto (-34), 3) := by decide +kernel
theorem d_Ch_recall_61 : decode b_Ch_recall 61 = .ok (.return_, 1) := by decide +kernel
theorem d_Fr_setSize_0 : decode b_Fr_setSize 0 = .ok (.aload_n 0, 1) := by decide +kernel
theorem d_Fr_setSize_1 : decode b_Fr_setSize 1 = .ok (.iload_n 1, 1) := by decide +kernel
theorem d_Fr_setSize_2 : decode b_Fr_setSize 2 = .ok (.putfield 21, 3) := by decide +kernel
theorem d_Fr_setSize_5 : decode b_Fr_setSize 5 = .ok (.return_, 1) := by decide +kernel
theorem d_Fr_goOnWith_0 : decode b_Fr_goOnWith 0 = .ok (.aload_n 0, 1) := by decide +kernel
theorem d_Fr_goOnWith_1 : decode b_Fr_goOnWith 1 = .ok (.iconst 0, 1) := by decide +kernel
theorem d_Fr_goOnWith_2 : decode b_Fr_goOnWith 2 = .ok (.putfield 21, 3) := by decide +kernel
theorem d_Fr_goOnWith_5 : decode b_Fr_goOnWith 5 = .ok (.aload_n 0, 1) := by decide +kernel
theorem d_Fr_goOnWith_6 : decode b_Fr_goOnWith 6 = .ok (.iload_n 2, 1) := by decide +kernel
theorem d_Fr_goOnWith_7 : decode b_Fr_goOnWith 7 = .ok (.invokevirtual 39, 3) := by decide +kernel
theorem d_Fr_goOnWith_10 : decode b_Fr_goOnWith 10 = .ok (.aload_n 0, 1) := by decide +kernel
theorem d_Fr_goOnWith_11 : decode b_Fr_goOnWith 11 = .ok (.iload_n 1, 1) := by decide +kernel
theorem d_Fr_goOnWith_12 : decode b_Fr_goOnWith 12 = .ok (.putfield 25, 3) := by decide +kernel
theorem d_Fr_goOnWith_15 : decode b_Fr_goOnWith 15 = .ok (.return_, 1) := by decide +kernel
theorem d_Fr_push_0 : decode b_Fr_push 0 = .ok (.aload_n 0, 1) := by decide +kernel
theorem d_Fr_push_1 : decode b_Fr_push 1 = .ok (.getfield 21, 3) := by decide +kernel
theorem d_Fr_push_4 : decode b_Fr_push 4 = .ok (.bipush 6, 2) := by decide +kernel
theorem d_Fr_push_6 : decode b_Fr_push 6 = .ok (.if_icmp .ge 25, 3) := by decide +kernel
theorem d_Fr_push_9 : decode b_Fr_push 9 = .ok (.aload_n 0, 1) := by decide +kernel
theorem d_Fr_push_10 : decode b_Fr_push 10 = .ok (.getfield 9, 3) := by decide +kernel
theorem d_Fr_push_13 : decode b_Fr_push 13 = .ok (.iconst 4, 1) := by decide +kernel
theorem d_Fr_push_14 : decode b_Fr_push 14 = .ok (.aload_n 0, 1) := by decide +kernel
theorem d_Fr_push_15 : decode b_Fr_push 15 = .ok (.getfield 21, 3) := by decide +kernel
theorem d_Fr_push_18 : decode b_Fr_push 18 = .ok (.iadd, 1) := by decide +kernel
theorem d_Fr_push_19 : decode b_Fr_push 19 = .ok (.iload_n 1, 1) := by decide +kernel
theorem d_Fr_push_20 : decode b_Fr_push 20 = .ok (.iastore, 1) := by decide +kernel
theorem d_Fr_push_21 : decode b_Fr_push 21 = .ok (.aload_n 0, 1) := by decide +kernel
theorem d_Fr_push_22 : decode b_Fr_push 22 = .ok (.dup, 1) := by decide +kernel
theorem d_Fr_push_23 : decode b_Fr_push 23 = .ok (.getfield 21, 3) := by decide +kernel
theorem d_Fr_push_26 : decode b_Fr_push 26 = .ok (.iconst 1, 1) := by decide +kernel
theorem d_Fr_push_27 : decode b_Fr_push 27 = .ok (.iadd, 1) := by decide +kernel
theorem d_Fr_push_28 : decode b_Fr_push 28 = .ok (.putfield 21, 3) := by decide +kernel
theorem d_Fr_push_31 : decode b_Fr_push 31 = .ok (.return_, 1) := by decide +kernel
theorem d_Pr_opOf_0 : decode b_Pr_opOf 0 = .ok (.iload_n 2, 1) := by decide +kernel
theorem d_Pr_opOf_1 : decode b_Pr_opOf 1 = .ok (.aload_n 0, 1) := by decide +kernel
theorem d_Pr_opOf_2 : decode b_Pr_opOf 2 = .ok (.iload_n 1, 1) := by decide +kernel
theorem d_Pr_opOf_3 : decode b_Pr_opOf 3 = .ok (.invokevirtual 98, 3) := by decide +kernel
theorem d_Pr_opOf_6 : decode b_Pr_opOf 6 = .ok (.invokestatic 80, 3) := by decide +kernel
theorem d_Pr_opOf_9 : decode b_Pr_opOf 9 = .ok (.ifCond .eq 14, 3) := by decide +kernel
theorem d_Pr_opOf_12 : decode b_Pr_opOf 12 = .ok (.aload_n 0, 1) := by decide +kernel
theorem d_Pr_opOf_13 : decode b_Pr_opOf 13 = .ok (.getfield 38, 3) := by decide +kernel
theorem d_Pr_opOf_16 : decode b_Pr_opOf 16 = .ok (.iload_n 1, 1) := by decide +kernel
theorem d_Pr_opOf_17 : decode b_Pr_opOf 17 = .ok (.aaload, 1) := by decide +kernel
theorem d_Pr_opOf_18 : decode b_Pr_opOf 18 = .ok (.iload_n 2, 1) := by decide +kernel
theorem d_Pr_opOf_19 : decode b_Pr_opOf 19 = .ok (.iaload, 1) := by decide +kernel
theorem d_Pr_opOf_20 : decode b_Pr_opOf 20 = .ok (.goto 4, 3) := by decide +kernel
theorem d_Pr_opOf_23 : decode b_Pr_opOf 23 = .ok (.iconst (-1), 1) := by decide +kernel
theorem d_Pr_opOf_24 : decode b_Pr_opOf 24 = .ok (.ireturn, 1) := by decide +kernel
theorem d_Pr_operandOf_0 : decode b_Pr_operandOf 0 = .ok (.iload_n 2, 1) := by decide +kernel
theorem d_Pr_operandOf_1 : decode b_Pr_operandOf 1 = .ok (.aload_n 0, 1) := by decide +kernel
theorem d_Pr_operandOf_2 : decode b_Pr_operandOf 2 = .ok (.iload_n 1, 1) := by decide +kernel
theorem d_Pr_operandOf_3 : decode b_Pr_operandOf 3 = .ok (.invokevirtual 98, 3) := by decide +kernel
theorem d_Pr_operandOf_6 : decode b_Pr_operandOf 6 = .ok (.invokestatic 80, 3) := by decide +kernel
theorem d_Pr_operandOf_9 : decode b_Pr_operandOf 9 = .ok (.ifCond .eq 14, 3) := by decide +kernel
theorem d_Pr_operandOf_12 : decode b_Pr_operandOf 12 = .ok (.aload_n 0, 1) := by decide +kernel
theorem d_Pr_operandOf_13 : decode b_Pr_operandOf 13 = .ok (.getfield 41, 3) := by decide +kernel
theorem d_Pr_operandOf_16 : decode b_Pr_operandOf 16 = .ok (.iload_n 1, 1) := by decide +kernel
theorem d_Pr_operandOf_17 : decode b_Pr_operandOf 17 = .ok (.aaload, 1) := by decide +kernel
theorem d_Pr_operandOf_18 : decode b_Pr_operandOf 18 = .ok (.iload_n 2, 1) := by decide +kernel
theorem d_Pr_operandOf_19 : decode b_Pr_operandOf 19 = .ok (.iaload, 1) := by decide +kernel
theorem d_Pr_operandOf_20 : decode b_Pr_operandOf 20 = .ok (.goto 4, 3) := by decide +kernel
theorem d_Pr_operandOf_23 : decode b_Pr_operandOf 23 = .ok (.iconst (-1), 1) := by decide +kernel
theorem d_Pr_operandOf_24 : decode b_Pr_operandOf 24 = .ok (.ireturn, 1) := by decide +kernel
theorem d_Ch_apply_0 : decode b_Ch_apply 0 = .ok (.iload_n 1, 1) := by decide +kernel
theorem d_Ch_apply_1 : decode b_Ch_apply 1 = .ok (.tableswitch 227 0 22 #[107, 116, 124, 161, 176, 184, 184, 184, 184, 227, 198, 116, 227, 227, 107, 198, 206, 227, 227, 227, 198, 198, 198], 107) := by decide +kernel
theorem d_Ch_apply_108 : decode b_Ch_apply 108 = .ok (.aload_n 0, 1) := by decide +kernel
theorem d_Ch_apply_109 : decode b_Ch_apply 109 = .ok (.bipush 9, 2) := by decide +kernel
theorem d_Ch_apply_111 : decode b_Ch_apply 111 = .ok (.invokevirtual 139, 3) := by decide +kernel
theorem d_Ch_apply_114 : decode b_Ch_apply 114 = .ok (.goto 120, 3) := by decide +kernel
theorem d_Ch_apply_117 : decode b_Ch_apply 117 = .ok (.aload_n 0, 1) := by decide +kernel
theorem d_Ch_apply_118 : decode b_Ch_apply 118 = .ok (.iload_n 2, 1) := by decide +kernel
theorem d_Ch_apply_119 : decode b_Ch_apply 119 = .ok (.invokevirtual 139, 3) := by decide +kernel
theorem d_Ch_apply_122 : decode b_Ch_apply 122 = .ok (.goto 112, 3) := by decide +kernel
theorem d_Ch_apply_125 : decode b_Ch_apply 125 = .ok (.aload_n 0, 1) := by decide +kernel
theorem d_Ch_apply_126 : decode b_Ch_apply 126 = .ok (.aload_n 0, 1) := by decide +kernel
theorem d_Ch_apply_127 : decode b_Ch_apply 127 = .ok (.getfield 21, 3) := by decide +kernel
theorem d_Ch_apply_130 : decode b_Ch_apply 130 = .ok (.iload_n 2, 1) := by decide +kernel
theorem d_Ch_apply_131 : decode b_Ch_apply 131 = .ok (.invokevirtual 130, 3) := by decide +kernel
theorem d_Ch_apply_134 : decode b_Ch_apply 134 = .ok (.bipush 8, 2) := by decide +kernel
theorem d_Ch_apply_136 : decode b_Ch_apply 136 = .ok (.if_icmp .eq 7, 3) := by decide +kernel
theorem d_Ch_apply_139 : decode b_Ch_apply 139 = .ok (.iconst 1, 1) := by decide +kernel
theorem d_Ch_apply_140 : decode b_Ch_apply 140 = .ok (.goto 4, 3) := by decide +kernel
theorem d_Ch_apply_143 : decode b_Ch_apply 143 = .ok (.iconst 0, 1) := by decide +kernel
theorem d_Ch_apply_144 : decode b_Ch_apply 144 = .ok (.invokevirtual 126, 3) := by decide +kernel
theorem d_Ch_apply_147 : decode b_Ch_apply 147 = .ok (.aload_n 0, 1) := by decide +kernel
theorem d_Ch_apply_148 : decode b_Ch_apply 148 = .ok (.aload_n 0, 1) := by decide +kernel
theorem d_Ch_apply_149 : decode b_Ch_apply 149 = .ok (.getfield 21, 3) := by decide +kernel
theorem d_Ch_apply_152 : decode b_Ch_apply 152 = .ok (.iload_n 2, 1) := by decide +kernel
theorem d_Ch_apply_153 : decode b_Ch_apply 153 = .ok (.invokevirtual 130, 3) := by decide +kernel
theorem d_Ch_apply_156 : decode b_Ch_apply 156 = .ok (.invokevirtual 139, 3) := by decide +kernel
theorem d_Ch_apply_159 : decode b_Ch_apply 159 = .ok (.goto 75, 3) := by decide +kernel
theorem d_Ch_apply_162 : decode b_Ch_apply 162 = .ok (.aload_n 0, 1) := by decide +kernel
theorem d_Ch_apply_163 : decode b_Ch_apply 163 = .ok (.getfield 21, 3) := by decide +kernel
theorem d_Ch_apply_166 : decode b_Ch_apply 166 = .ok (.iload_n 2, 1) := by decide +kernel
theorem d_Ch_apply_167 : decode b_Ch_apply 167 = .ok (.aload_n 0, 1) := by decide +kernel
theorem d_Ch_apply_168 : decode b_Ch_apply 168 = .ok (.invokevirtual 142, 3) := by decide +kernel
theorem d_Ch_apply_171 : decode b_Ch_apply 171 = .ok (.invokevirtual 81, 3) := by decide +kernel
theorem d_Ch_apply_174 : decode b_Ch_apply 174 = .ok (.goto 60, 3) := by decide +kernel
theorem d_Ch_apply_177 : decode b_Ch_apply 177 = .ok (.aload_n 0, 1) := by decide +kernel
theorem d_Ch_apply_178 : decode b_Ch_apply 178 = .ok (.invokevirtual 142, 3) := by decide +kernel
theorem d_Ch_apply_181 : decode b_Ch_apply 181 = .ok (.pop, 1) := by decide +kernel
theorem d_Ch_apply_182 : decode b_Ch_apply 182 = .ok (.goto 52, 3) := by decide +kernel
theorem d_Ch_apply_185 : decode b_Ch_apply 185 = .ok (.aload_n 0, 1) := by decide +kernel
theorem d_Ch_apply_186 : decode b_Ch_apply 186 = .ok (.iconst 2, 1) := by decide +kernel
theorem d_Ch_apply_187 : decode b_Ch_apply 187 = .ok (.invokevirtual 145, 3) := by decide +kernel
theorem d_Ch_apply_190 : decode b_Ch_apply 190 = .ok (.aload_n 0, 1) := by decide +kernel
theorem d_Ch_apply_191 : decode b_Ch_apply 191 = .ok (.bipush 9, 2) := by decide +kernel
theorem d_Ch_apply_193 : decode b_Ch_apply 193 = .ok (.invokevirtual 139, 3) := by decide +kernel
theorem d_Ch_apply_196 : decode b_Ch_apply 196 = .ok (.goto 38, 3) := by decide +kernel
theorem d_Ch_apply_199 : decode b_Ch_apply 199 = .ok (.aload_n 0, 1) := by decide +kernel
theorem d_Ch_apply_200 : decode b_Ch_apply 200 = .ok (.iconst 1, 1) := by decide +kernel
theorem d_Ch_apply_201 : decode b_Ch_apply 201 = .ok (.invokevirtual 145, 3) := by decide +kernel
theorem d_Ch_apply_204 : decode b_Ch_apply 204 = .ok (.goto 30, 3) := by decide +kernel
theorem d_Ch_apply_207 : decode b_Ch_apply 207 = .ok (.aload_n 0, 1) := by decide +kernel
theorem d_Ch_apply_208 : decode b_Ch_apply 208 = .ok (.aload_n 0, 1) := by decide +kernel
theorem d_Ch_apply_209 : decode b_Ch_apply 209 = .ok (.getfield 25, 3) := by decide +kernel
theorem d_Ch_apply_212 : decode b_Ch_apply 212 = .ok (.iload_n 2, 1) := by decide +kernel
theorem d_Ch_apply_213 : decode b_Ch_apply 213 = .ok (.invokevirtual 77, 3) := by decide +kernel
theorem d_Ch_apply_216 : decode b_Ch_apply 216 = .ok (.invokevirtual 145, 3) := by decide +kernel
theorem d_Ch_apply_219 : decode b_Ch_apply 219 = .ok (.aload_n 0, 1) := by decide +kernel
theorem d_Ch_apply_220 : decode b_Ch_apply 220 = .ok (.bipush 9, 2) := by decide +kernel
theorem d_Ch_apply_222 : decode b_Ch_apply 222 = .ok (.invokevirtual 139, 3) := by decide +kernel
theorem d_Ch_apply_225 : decode b_Ch_apply 225 = .ok (.goto 9, 3) := by decide +kernel
theorem d_Ch_apply_228 : decode b_Ch_apply 228 = .ok (.aload_n 0, 1) := by decide +kernel
theorem d_Ch_apply_229 : decode b_Ch_apply 229 = .ok (.iload_n 1, 1) := by decide +kernel
theorem d_Ch_apply_230 : decode b_Ch_apply 230 = .ok (.iload_n 2, 1) := by decide +kernel
theorem d_Ch_apply_231 : decode b_Ch_apply 231 = .ok (.invokevirtual 148, 3) := by decide +kernel
theorem d_Ch_apply_234 : decode b_Ch_apply 234 = .ok (.return_, 1) := by decide +kernel
theorem d_Ch_put_0 : decode b_Ch_put 0 = .ok (.aload_n 0, 1) := by decide +kernel
theorem d_Ch_put_1 : decode b_Ch_put 1 = .ok (.aload_n 0, 1) := by decide +kernel
theorem d_Ch_put_2 : decode b_Ch_put 2 = .ok (.getfield 21, 3) := by decide +kernel
theorem d_Ch_put_5 : decode b_Ch_put 5 = .ok (.invokevirtual 123, 3) := by decide +kernel
theorem d_Ch_put_8 : decode b_Ch_put 8 = .ok (.bipush 6, 2) := by decide +kernel
theorem d_Ch_put_10 : decode b_Ch_put 10 = .ok (.if_icmp .ge 7, 3) := by decide +kernel
theorem d_Ch_put_13 : decode b_Ch_put 13 = .ok (.iconst 1, 1) := by decide +kernel
theorem d_Ch_put_14 : decode b_Ch_put 14 = .ok (.goto 4, 3) := by decide +kernel
theorem d_Ch_put_17 : decode b_Ch_put 17 = .ok (.iconst 0, 1) := by decide +kernel
theorem d_Ch_put_18 : decode b_Ch_put 18 = .ok (.invokevirtual 126, 3) := by decide +kernel
theorem d_Ch_put_21 : decode b_Ch_put 21 = .ok (.aload_n 0, 1) := by decide +kernel
theorem d_Ch_put_22 : decode b_Ch_put 22 = .ok (.getfield 21, 3) := by decide +kernel
theorem d_Ch_put_25 : decode b_Ch_put 25 = .ok (.iload_n 1, 1) := by decide +kernel
theorem d_Ch_put_26 : decode b_Ch_put 26 = .ok (.invokevirtual 160, 3) := by decide +kernel
theorem d_Ch_put_29 : decode b_Ch_put 29 = .ok (.return_, 1) := by decide +kernel
theorem d_Ch_takeAny_0 : decode b_Ch_takeAny 0 = .ok (.aload_n 0, 1) := by decide +kernel
theorem d_Ch_takeAny_1 : decode b_Ch_takeAny 1 = .ok (.aload_n 0, 1) := by decide +kernel
theorem d_Ch_takeAny_2 : decode b_Ch_takeAny 2 = .ok (.getfield 21, 3) := by decide +kernel
theorem d_Ch_takeAny_5 : decode b_Ch_takeAny 5 = .ok (.invokevirtual 123, 3) := by decide +kernel
theorem d_Ch_takeAny_8 : decode b_Ch_takeAny 8 = .ok (.ifCond .le 7, 3) := by decide +kernel
theorem d_Ch_takeAny_11 : decode b_Ch_takeAny 11 = .ok (.iconst 1, 1) := by decide +kernel
theorem d_Ch_takeAny_12 : decode b_Ch_takeAny 12 = .ok (.goto 4, 3) := by decide +kernel
theorem d_Ch_takeAny_15 : decode b_Ch_takeAny 15 = .ok (.iconst 0, 1) := by decide +kernel
theorem d_Ch_takeAny_16 : decode b_Ch_takeAny 16 = .ok (.invokevirtual 126, 3) := by decide +kernel
theorem d_Ch_takeAny_19 : decode b_Ch_takeAny 19 = .ok (.aload_n 0, 1) := by decide +kernel
theorem d_Ch_takeAny_20 : decode b_Ch_takeAny 20 = .ok (.getfield 21, 3) := by decide +kernel
theorem d_Ch_takeAny_23 : decode b_Ch_takeAny 23 = .ok (.invokevirtual 163, 3) := by decide +kernel
theorem d_Ch_takeAny_26 : decode b_Ch_takeAny 26 = .ok (.ireturn, 1) := by decide +kernel
theorem d_Fr_pop_0 : decode b_Fr_pop 0 = .ok (.aload_n 0, 1) := by decide +kernel
