theorem d_Cw_init_0 : decode b_Cw_init 0 = .ok (.aload_n 0, 1) := by decide +kernel
theorem d_Cw_init_1 : decode b_Cw_init 1 = .ok (.invokespecial 3, 3) := by decide +kernel
theorem d_Cw_init_4 : decode b_Cw_init 4 = .ok (.new 9, 3) := by decide +kernel
theorem d_Cw_init_7 : decode b_Cw_init 7 = .ok (.dup, 1) := by decide +kernel
theorem d_Cw_init_8 : decode b_Cw_init 8 = .ok (.invokespecial 11, 3) := by decide +kernel
theorem d_Cw_init_11 : decode b_Cw_init 11 = .ok (.astore_n 1, 1) := by decide +kernel
theorem d_Cw_init_12 : decode b_Cw_init 12 = .ok (.new 12, 3) := by decide +kernel
theorem d_Cw_init_15 : decode b_Cw_init 15 = .ok (.dup, 1) := by decide +kernel
theorem d_Cw_init_16 : decode b_Cw_init 16 = .ok (.aload_n 1, 1) := by decide +kernel
theorem d_Cw_init_17 : decode b_Cw_init 17 = .ok (.invokespecial 14, 3) := by decide +kernel
theorem d_Cw_init_20 : decode b_Cw_init 20 = .ok (.astore_n 2, 1) := by decide +kernel
theorem d_Cw_init_21 : decode b_Cw_init 21 = .ok (.aload_n 0, 1) := by decide +kernel
theorem d_Cw_init_22 : decode b_Cw_init 22 = .ok (.aload_n 1, 1) := by decide +kernel
theorem d_Cw_init_23 : decode b_Cw_init 23 = .ok (.putfield 17, 3) := by decide +kernel
theorem d_Cw_init_26 : decode b_Cw_init 26 = .ok (.aload_n 0, 1) := by decide +kernel
theorem d_Cw_init_27 : decode b_Cw_init 27 = .ok (.aload_n 2, 1) := by decide +kernel
theorem d_Cw_init_28 : decode b_Cw_init 28 = .ok (.putfield 21, 3) := by decide +kernel
theorem d_Cw_init_31 : decode b_Cw_init 31 = .ok (.aload_n 0, 1) := by decide +kernel
theorem d_Cw_init_32 : decode b_Cw_init 32 = .ok (.new 25, 3) := by decide +kernel
theorem d_Cw_init_35 : decode b_Cw_init 35 = .ok (.dup, 1) := by decide +kernel
theorem d_Cw_init_36 : decode b_Cw_init 36 = .ok (.aload_n 1, 1) := by decide +kernel
theorem d_Cw_init_37 : decode b_Cw_init 37 = .ok (.aload_n 2, 1) := by decide +kernel
theorem d_Cw_init_38 : decode b_Cw_init 38 = .ok (.invokespecial 27, 3) := by decide +kernel
theorem d_Cw_init_41 : decode b_Cw_init 41 = .ok (.putfield 30, 3) := by decide +kernel
theorem d_Cw_init_44 : decode b_Cw_init 44 = .ok (.aload_n 0, 1) := by decide +kernel
theorem d_Cw_init_45 : decode b_Cw_init 45 = .ok (.new 34, 3) := by decide +kernel
theorem d_Cw_init_48 : decode b_Cw_init 48 = .ok (.dup, 1) := by decide +kernel
theorem d_Cw_init_49 : decode b_Cw_init 49 = .ok (.aload_n 1, 1) := by decide +kernel
theorem d_Cw_init_50 : decode b_Cw_init 50 = .ok (.invokespecial 36, 3) := by decide +kernel
theorem d_Cw_init_53 : decode b_Cw_init 53 = .ok (.putfield 37, 3) := by decide +kernel
theorem d_Cw_init_56 : decode b_Cw_init 56 = .ok (.aload_n 0, 1) := by decide +kernel
theorem d_Cw_init_57 : decode b_Cw_init 57 = .ok (.iconst 0, 1) := by decide +kernel
theorem d_Cw_init_58 : decode b_Cw_init 58 = .ok (.putfield 41, 3) := by decide +kernel
theorem d_Cw_init_61 : decode b_Cw_init 61 = .ok (.aload_n 0, 1) := by decide +kernel
theorem d_Cw_init_62 : decode b_Cw_init 62 = .ok (.iconst 0, 1) := by decide +kernel
theorem d_Cw_init_63 : decode b_Cw_init 63 = .ok (.putfield 45, 3) := by decide +kernel
theorem d_Cw_init_66 : decode b_Cw_init 66 = .ok (.return_, 1) := by decide +kernel
theorem d_Ob_init_0 : decode b_Ob_init 0 = .ok (.return_, 1) := by decide +kernel
theorem d_Pr_init_0 : decode b_Pr_init 0 = .ok (.aload_n 0, 1) := by decide +kernel
theorem d_Pr_init_1 : decode b_Pr_init 1 = .ok (.invokespecial 3, 3) := by decide +kernel
theorem d_Pr_init_4 : decode b_Pr_init 4 = .ok (.aload_n 0, 1) := by decide +kernel
theorem d_Pr_init_5 : decode b_Pr_init 5 = .ok (.bipush 6, 2) := by decide +kernel
theorem d_Pr_init_7 : decode b_Pr_init 7 = .ok (.newarray .int, 2) := by decide +kernel
theorem d_Pr_init_9 : decode b_Pr_init 9 = .ok (.putfield 9, 3) := by decide +kernel
theorem d_Pr_init_12 : decode b_Pr_init 12 = .ok (.aload_n 0, 1) := by decide +kernel
theorem d_Pr_init_13 : decode b_Pr_init 13 = .ok (.bipush 6, 2) := by decide +kernel
theorem d_Pr_init_15 : decode b_Pr_init 15 = .ok (.newarray .int, 2) := by decide +kernel
theorem d_Pr_init_17 : decode b_Pr_init 17 = .ok (.putfield 15, 3) := by decide +kernel
theorem d_Pr_init_20 : decode b_Pr_init 20 = .ok (.aload_n 0, 1) := by decide +kernel
theorem d_Pr_init_21 : decode b_Pr_init 21 = .ok (.bipush 6, 2) := by decide +kernel
theorem d_Pr_init_23 : decode b_Pr_init 23 = .ok (.newarray .int, 2) := by decide +kernel
theorem d_Pr_init_25 : decode b_Pr_init 25 = .ok (.putfield 18, 3) := by decide +kernel
theorem d_Pr_init_28 : decode b_Pr_init 28 = .ok (.aload_n 0, 1) := by decide +kernel
theorem d_Pr_init_29 : decode b_Pr_init 29 = .ok (.bipush 6, 2) := by decide +kernel
theorem d_Pr_init_31 : decode b_Pr_init 31 = .ok (.iconst 4, 1) := by decide +kernel
theorem d_Pr_init_32 : decode b_Pr_init 32 = .ok (.multianewarray 21 2, 4) := by decide +kernel
theorem d_Pr_init_36 : decode b_Pr_init 36 = .ok (.putfield 23, 3) := by decide +kernel
theorem d_Pr_init_39 : decode b_Pr_init 39 = .ok (.aload_n 0, 1) := by decide +kernel
theorem d_Pr_init_40 : decode b_Pr_init 40 = .ok (.bipush 10, 2) := by decide +kernel
theorem d_Pr_init_42 : decode b_Pr_init 42 = .ok (.newarray .int, 2) := by decide +kernel
theorem d_Pr_init_44 : decode b_Pr_init 44 = .ok (.putfield 26, 3) := by decide +kernel
theorem d_Pr_init_47 : decode b_Pr_init 47 = .ok (.aload_n 0, 1) := by decide +kernel
theorem d_Pr_init_48 : decode b_Pr_init 48 = .ok (.bipush 10, 2) := by decide +kernel
theorem d_Pr_init_50 : decode b_Pr_init 50 = .ok (.newarray .int, 2) := by decide +kernel
theorem d_Pr_init_52 : decode b_Pr_init 52 = .ok (.putfield 29, 3) := by decide +kernel
theorem d_Pr_init_55 : decode b_Pr_init 55 = .ok (.aload_n 0, 1) := by decide +kernel
theorem d_Pr_init_56 : decode b_Pr_init 56 = .ok (.bipush 10, 2) := by decide +kernel
theorem d_Pr_init_58 : decode b_Pr_init 58 = .ok (.newarray .int, 2) := by decide +kernel
theorem d_Pr_init_60 : decode b_Pr_init 60 = .ok (.putfield 32, 3) := by decide +kernel
theorem d_Pr_init_63 : decode b_Pr_init 63 = .ok (.aload_n 0, 1) := by decide +kernel
theorem d_Pr_init_64 : decode b_Pr_init 64 = .ok (.bipush 10, 2) := by decide +kernel
theorem d_Pr_init_66 : decode b_Pr_init 66 = .ok (.newarray .int, 2) := by decide +kernel
theorem d_Pr_init_68 : decode b_Pr_init 68 = .ok (.putfield 35, 3) := by decide +kernel
theorem d_Pr_init_71 : decode b_Pr_init 71 = .ok (.aload_n 0, 1) := by decide +kernel
theorem d_Pr_init_72 : decode b_Pr_init 72 = .ok (.bipush 10, 2) := by decide +kernel
theorem d_Pr_init_74 : decode b_Pr_init 74 = .ok (.bipush 20, 2) := by decide +kernel
theorem d_Pr_init_76 : decode b_Pr_init 76 = .ok (.multianewarray 21 2, 4) := by decide +kernel
theorem d_Pr_init_80 : decode b_Pr_init 80 = .ok (.putfield 38, 3) := by decide +kernel
theorem d_Pr_init_83 : decode b_Pr_init 83 = .ok (.aload_n 0, 1) := by decide +kernel
theorem d_Pr_init_84 : decode b_Pr_init 84 = .ok (.bipush 10, 2) := by decide +kernel
theorem d_Pr_init_86 : decode b_Pr_init 86 = .ok (.bipush 20, 2) := by decide +kernel
theorem d_Pr_init_88 : decode b_Pr_init 88 = .ok (.multianewarray 21 2, 4) := by decide +kernel
theorem d_Pr_init_92 : decode b_Pr_init 92 = .ok (.putfield 41, 3) := by decide +kernel
theorem d_Pr_init_95 : decode b_Pr_init 95 = .ok (.aload_n 0, 1) := by decide +kernel
theorem d_Pr_init_96 : decode b_Pr_init 96 = .ok (.bipush 10, 2) := by decide +kernel
theorem d_Pr_init_98 : decode b_Pr_init 98 = .ok (.newarray .int, 2) := by decide +kernel
theorem d_Pr_init_100 : decode b_Pr_init 100 = .ok (.putfield 44, 3) := by decide +kernel
theorem d_Pr_init_103 : decode b_Pr_init 103 = .ok (.aload_n 0, 1) := by decide +kernel
theorem d_Pr_init_104 : decode b_Pr_init 104 = .ok (.bipush 10, 2) := by decide +kernel
theorem d_Pr_init_106 : decode b_Pr_init 106 = .ok (.iconst 3, 1) := by decide +kernel
theorem d_Pr_init_107 : decode b_Pr_init 107 = .ok (.multianewarray 21 2, 4) := by decide +kernel
theorem d_Pr_init_111 : decode b_Pr_init 111 = .ok (.putfield 47, 3) := by decide +kernel
theorem d_Pr_init_114 : decode b_Pr_init 114 = .ok (.aload_n 0, 1) := by decide +kernel
theorem d_Pr_init_115 : decode b_Pr_init 115 = .ok (.bipush 10, 2) := by decide +kernel
theorem d_Pr_init_117 : decode b_Pr_init 117 = .ok (.iconst 3, 1) := by decide +kernel
theorem d_Pr_init_118 : decode b_Pr_init 118 = .ok (.multianewarray 21 2, 4) := by decide +kernel
theorem d_Pr_init_122 : decode b_Pr_init 122 = .ok (.putfield 50, 3) := by decide +kernel
theorem d_Pr_init_125 : decode b_Pr_init 125 = .ok (.aload_n 0, 1) := by decide +kernel
theorem d_Pr_init_126 : decode b_Pr_init 126 = .ok (.bipush 10, 2) := by decide +kernel
theorem d_Pr_init_128 : decode b_Pr_init 128 = .ok (.iconst 3, 1) := by decide +kernel
theorem d_Pr_init_129 : decode b_Pr_init 129 = .ok (.multianewarray 21 2, 4) := by decide +kernel
theorem d_Pr_init_133 : decode b_Pr_init 133 = .ok (.putfield 53, 3) := by decide +kernel
theorem d_Pr_init_136 : decode b_Pr_init 136 = .ok (.return_, 1) := by decide +kernel
theorem d_Ch_init_0 : decode b_Ch_init 0 = .ok (.aload_n 0, 1) := by decide +kernel
theorem d_Ch_init_1 : decode b_Ch_init 1 = .ok (.invokespecial 3, 3) := by decide +kernel
theorem d_Ch_init_4 : decode b_Ch_init 4 = .ok (.aload_n 0, 1) := by decide +kernel
theorem d_Ch_init_5 : decode b_Ch_init 5 = .ok (.sipush 2000, 3) := by decide +kernel
theorem d_Ch_init_8 : decode b_Ch_init 8 = .ok (.newarray .int, 2) := by decide +kernel
theorem d_Ch_init_10 : decode b_Ch_init 10 = .ok (.putfield 9, 3) := by decide +kernel
theorem d_Ch_init_13 : decode b_Ch_init 13 = .ok (.aload_n 0, 1) := by decide +kernel
theorem d_Ch_init_14 : decode b_Ch_init 14 = .ok (.sipush 200, 3) := by decide +kernel
theorem d_Ch_init_17 : decode b_Ch_init 17 = .ok (.newarray .int, 2) := by decide +kernel
theorem d_Ch_init_19 : decode b_Ch_init 19 = .ok (.putfield 15, 3) := by decide +kernel
theorem d_Ch_init_22 : decode b_Ch_init 22 = .ok (.aload_n 0, 1) := by decide +kernel
theorem d_Ch_init_23 : decode b_Ch_init 23 = .ok (.new 18, 3) := by decide +kernel
theorem d_Ch_init_26 : decode b_Ch_init 26 = .ok (.dup, 1) := by decide +kernel
theorem d_Ch_init_27 : decode b_Ch_init 27 = .ok (.invokespecial 20, 3) := by decide +kernel
theorem d_Ch_init_30 : decode b_Ch_init 30 = .ok (.putfield 21, 3) := by decide +kernel
theorem d_Ch_init_33 : decode b_Ch_init 33 = .ok (.aload_n 0, 1) := by decide +kernel
theorem d_Ch_init_34 : decode b_Ch_init 34 = .ok (.aload_n 1, 1) := by decide +kernel
theorem d_Ch_init_35 : decode b_Ch_init 35 = .ok (.putfield 25, 3) := by decide +kernel
theorem d_Ch_init_38 : decode b_Ch_init 38 = .ok (.return_, 1) := by decide +kernel
theorem d_Fr_init_0 : decode b_Fr_init 0 = .ok (.aload_n 0, 1) := by decide +kernel
theorem d_Fr_init_1 : decode b_Fr_init 1 = .ok (.invokespecial 3, 3) := by decide +kernel
theorem d_Fr_init_4 : decode b_Fr_init 4 = .ok (.aload_n 0, 1) := by decide +kernel
theorem d_Fr_init_5 : decode b_Fr_init 5 = .ok (.bipush 10, 2) := by decide +kernel
theorem d_Fr_init_7 : decode b_Fr_init 7 = .ok (.newarray .int, 2) := by decide +kernel
theorem d_Fr_init_9 : decode b_Fr_init 9 = .ok (.putfield 9, 3) := by decide +kernel
theorem d_Fr_init_12 : decode b_Fr_init 12 = .ok (.return_, 1) := by decide +kernel
theorem d_Re_init_0 : decode b_Re_init 0 = .ok (.aload_n 0, 1) := by decide +kernel
theorem d_Re_init_1 : decode b_Re_init 1 = .ok (.invokespecial 3, 3) := by decide +kernel
theorem d_Re_init_4 : decode b_Re_init 4 = .ok (.aload_n 0, 1) := by decide +kernel
theorem d_Re_init_5 : decode b_Re_init 5 = .ok (.aload_n 1, 1) := by decide +kernel
theorem d_Re_init_6 : decode b_Re_init 6 = .ok (.putfield 9, 3) := by decide +kernel
theorem d_Re_init_9 : decode b_Re_init 9 = .ok (.aload_n 0, 1) := by decide +kernel
theorem d_Re_init_10 : decode b_Re_init 10 = .ok (.aload_n 2, 1) := by decide +kernel
theorem d_Re_init_11 : decode b_Re_init 11 = .ok (.putfield 15, 3) := by decide +kernel
theorem d_Re_init_14 : decode b_Re_init 14 = .ok (.return_, 1) := by decide +kernel
theorem d_Ma_init_0 : decode b_Ma_init 0 = .ok (.aload_n 0, 1) := by decide +kernel
theorem d_Ma_init_1 : decode b_Ma_init 1 = .ok (.invokespecial 3, 3) := by decide +kernel
theorem d_Ma_init_4 : decode b_Ma_init 4 = .ok (.aload_n 0, 1) := by decide +kernel
theorem d_Ma_init_5 : decode b_Ma_init 5 = .ok (.bipush 11, 2) := by decide +kernel
theorem d_Ma_init_7 : decode b_Ma_init 7 = .ok (.anewarray 9, 3) := by decide +kernel
theorem d_Ma_init_10 : decode b_Ma_init 10 = .ok (.putfield 11, 3) := by decide +kernel
theorem d_Ma_init_13 : decode b_Ma_init 13 = .ok (.aload_n 0, 1) := by decide +kernel
theorem d_Ma_init_14 : decode b_Ma_init 14 = .ok (.bipush 6, 2) := by decide +kernel
theorem d_Ma_init_16 : decode b_Ma_init 16 = .ok (.newarray .int, 2) := by decide +kernel
theorem d_Ma_init_18 : decode b_Ma_init 18 = .ok (.putfield 17, 3) := by decide +kernel
theorem d_Ma_init_21 : decode b_Ma_init 21 = .ok (.aload_n 0, 1) := by decide +kernel
theorem d_Ma_init_22 : decode b_Ma_init 22 = .ok (.bipush 6, 2) := by decide +kernel
theorem d_Ma_init_24 : decode b_Ma_init 24 = .ok (.newarray .int, 2) := by decide +kernel
theorem d_Ma_init_26 : decode b_Ma_init 26 = .ok (.putfield 21, 3) := by decide +kernel
theorem d_Ma_init_29 : decode b_Ma_init 29 = .ok (.aload_n 0, 1) := by decide +kernel
theorem d_Ma_init_30 : decode b_Ma_init 30 = .ok (.bipush 16, 2) := by decide +kernel
theorem d_Ma_init_32 : decode b_Ma_init 32 = .ok (.newarray .int, 2) := by decide +kernel
theorem d_Ma_init_34 : decode b_Ma_init 34 = .ok (.putfield 24, 3) := by decide +kernel
theorem d_Ma_init_37 : decode b_Ma_init 37 = .ok (.aload_n 0, 1) := by decide +kernel
theorem d_Ma_init_38 : decode b_Ma_init 38 = .ok (.bipush 96, 2) := by decide +kernel
theorem d_Ma_init_40 : decode b_Ma_init 40 = .ok (.newarray .int, 2) := by decide +kernel
theorem d_Ma_init_42 : decode b_Ma_init 42 = .ok (.putfield 27, 3) := by decide +kernel
theorem d_Ma_init_45 : decode b_Ma_init 45 = .ok (.aload_n 0, 1) := by decide +kernel
theorem d_Ma_init_46 : decode b_Ma_init 46 = .ok (.bipush 16, 2) := by decide +kernel
theorem d_Ma_init_48 : decode b_Ma_init 48 = .ok (.newarray .int, 2) := by decide +kernel
theorem d_Ma_init_50 : decode b_Ma_init 50 = .ok (.putfield 30, 3) := by decide +kernel
theorem d_Ma_init_53 : decode b_Ma_init 53 = .ok (.aload_n 0, 1) := by decide +kernel
theorem d_Ma_init_54 : decode b_Ma_init 54 = .ok (.aload_n 1, 1) := by decide +kernel
theorem d_Ma_init_55 : decode b_Ma_init 55 = .ok (.putfield 33, 3) := by decide +kernel
theorem d_Ma_init_58 : decode b_Ma_init 58 = .ok (.iconst 0, 1) := by decide +kernel
theorem d_Ma_init_59 : decode b_Ma_init 59 = .ok (.istore_n 2, 1) := by decide +kernel
theorem d_Ma_init_60 : decode b_Ma_init 60 = .ok (.iload_n 2, 1) := by decide +kernel
theorem d_Ma_init_61 : decode b_Ma_init 61 = .ok (.aload_n 0, 1) := by decide +kernel
theorem d_Ma_init_62 : decode b_Ma_init 62 = .ok (.getfield 11, 3) := by decide +kernel
theorem d_Ma_init_65 : decode b_Ma_init 65 = .ok (.arraylength, 1) := by decide +kernel
theorem d_Ma_init_66 : decode b_Ma_init 66 = .ok (.if_icmp .ge 22, 3) := by decide +kernel
theorem d_Ma_init_69 : decode b_Ma_init 69 = .ok (.aload_n 0, 1) := by decide +kernel
theorem d_Ma_init_70 : decode b_Ma_init 70 = .ok (.getfield 11, 3) := by decide +kernel
theorem d_Ma_init_73 : decode b_Ma_init 73 = .ok (.iload_n 2, 1) := by decide +kernel
theorem d_Ma_init_74 : decode b_Ma_init 74 = .ok (.new 9, 3) := by decide +kernel
theorem d_Ma_init_77 : decode b_Ma_init 77 = .ok (.dup, 1) := by decide +kernel
theorem d_Ma_init_78 : decode b_Ma_init 78 = .ok (.invokespecial 37, 3) := by decide +kernel
theorem d_Ma_init_81 : decode b_Ma_init 81 = .ok (.aastore, 1) := by decide +kernel
theorem d_Ma_init_82 : decode b_Ma_init 82 = .ok (.iinc 2 1, 3) := by decide +kernel
theorem d_Ma_init_85 : decode b_Ma_init 85 = .ok (.goto (-25), 3) := by decide +kernel
theorem d_Ma_init_88 : decode b_Ma_init 88 = .ok (.return_, 1) := by decide +kernel
theorem d_Cw_type_0 : decode b_Cw_type 0 = .ok (.aload_n 0, 1) := by decide +kernel
theorem d_Cw_type_1 : decode b_Cw_type 1 = .ok (.aload_n 0, 1) := by decide +kernel
theorem d_Cw_type_2 : decode b_Cw_type 2 = .ok (.getfield 17, 3) := by decide +kernel
theorem d_Cw_type_5 : decode b_Cw_type 5 = .ok (.iload_n 1, 1) := by decide +kernel
theorem d_Cw_type_6 : decode b_Cw_type 6 = .ok (.iload_n 2, 1) := by decide +kernel
theorem d_Cw_type_7 : decode b_Cw_type 7 = .ok (.invokevirtual 48, 3) := by decide +kernel
theorem d_Cw_type_10 : decode b_Cw_type 10 = .ok (.invokevirtual 52, 3) := by decide +kernel
theorem d_Cw_type_13 : decode b_Cw_type 13 = .ok (.ireturn, 1) := by decide +kernel
theorem d_Pr_addType_0 : decode b_Pr_addType 0 = .ok (.iload_n 1, 1) := by decide +kernel
theorem d_Pr_addType_1 : decode b_Pr_addType 1 = .ok (.iconst (-1), 1) := by decide +kernel
theorem d_Pr_addType_2 : decode b_Pr_addType 2 = .ok (.if_icmp .eq 11, 3) := by decide +kernel
theorem d_Pr_addType_5 : decode b_Pr_addType 5 = .ok (.aload_n 0, 1) := by decide +kernel
theorem d_Pr_addType_6 : decode b_Pr_addType 6 = .ok (.iload_n 1, 1) := by decide +kernel
theorem d_Pr_addType_7 : decode b_Pr_addType 7 = .ok (.invokevirtual 56, 3) := by decide +kernel
theorem d_Pr_addType_10 : decode b_Pr_addType 10 = .ok (.ifCond .eq 7, 3) := by decide +kernel
theorem d_Pr_addType_13 : decode b_Pr_addType 13 = .ok (.iconst 1, 1) := by decide +kernel
theorem d_Pr_addType_14 : decode b_Pr_addType 14 = .ok (.goto 4, 3) := by decide +kernel
theorem d_Pr_addType_17 : decode b_Pr_addType 17 = .ok (.iconst 0, 1) := by decide +kernel
theorem d_Pr_addType_18 : decode b_Pr_addType 18 = .ok (.istore_n 3, 1) := by decide +kernel
theorem d_Pr_addType_19 : decode b_Pr_addType 19 = .ok (.aload_n 0, 1) := by decide +kernel
theorem d_Pr_addType_20 : decode b_Pr_addType 20 = .ok (.getfield 60, 3) := by decide +kernel
theorem d_Pr_addType_23 : decode b_Pr_addType 23 = .ok (.bipush 6, 2) := by decide +kernel
theorem d_Pr_addType_25 : decode b_Pr_addType 25 = .ok (.if_icmp .ge 23, 3) := by decide +kernel
theorem d_Pr_addType_28 : decode b_Pr_addType 28 = .ok (.iload_n 3, 1) := by decide +kernel
theorem d_Pr_addType_29 : decode b_Pr_addType 29 = .ok (.ifCond .eq 19, 3) := by decide +kernel
theorem d_Pr_addType_32 : decode b_Pr_addType 32 = .ok (.iload_n 2, 1) := by decide +kernel
theorem d_Pr_addType_33 : decode b_Pr_addType 33 = .ok (.ifCond .lt 15, 3) := by decide +kernel
theorem d_Pr_addType_36 : decode b_Pr_addType 36 = .ok (.iload_n 2, 1) := by decide +kernel
theorem d_Pr_addType_37 : decode b_Pr_addType 37 = .ok (.bipush 6, 2) := by decide +kernel
theorem d_Pr_addType_39 : decode b_Pr_addType 39 = .ok (.aload_n 0, 1) := by decide +kernel
theorem d_Pr_addType_40 : decode b_Pr_addType 40 = .ok (.iload_n 1, 1) := by decide +kernel
theorem d_Pr_addType_41 : decode b_Pr_addType 41 = .ok (.invokevirtual 64, 3) := by decide +kernel
theorem d_Pr_addType_44 : decode b_Pr_addType 44 = .ok (.isub, 1) := by decide +kernel
theorem d_Pr_addType_45 : decode b_Pr_addType 45 = .ok (.if_icmp .le 5, 3) := by decide +kernel
theorem d_Pr_addType_48 : decode b_Pr_addType 48 = .ok (.iconst (-1), 1) := by decide +kernel
theorem d_Pr_addType_49 : decode b_Pr_addType 49 = .ok (.ireturn, 1) := by decide +kernel
theorem d_Pr_addType_50 : decode b_Pr_addType 50 = .ok (.aload_n 0, 1) := by decide +kernel
theorem d_Pr_addType_51 : decode b_Pr_addType 51 = .ok (.getfield 60, 3) := by decide +kernel
theorem d_Pr_addType_54 : decode b_Pr_addType 54 = .ok (.istore 4, 2) := by decide +kernel
theorem d_Pr_addType_56 : decode b_Pr_addType 56 = .ok (.aload_n 0, 1) := by decide +kernel
theorem d_Pr_addType_57 : decode b_Pr_addType 57 = .ok (.dup, 1) := by decide +kernel
theorem d_Pr_addType_58 : decode b_Pr_addType 58 = .ok (.getfield 60, 3) := by decide +kernel
theorem d_Pr_addType_61 : decode b_Pr_addType 61 = .ok (.iconst 1, 1) := by decide +kernel
theorem d_Pr_addType_62 : decode b_Pr_addType 62 = .ok (.iadd, 1) := by decide +kernel
theorem d_Pr_addType_63 : decode b_Pr_addType 63 = .ok (.putfield 60, 3) := by decide +kernel
theorem d_Pr_addType_66 : decode b_Pr_addType 66 = .ok (.aload_n 0, 1) := by decide +kernel
theorem d_Pr_addType_67 : decode b_Pr_addType 67 = .ok (.getfield 9, 3) := by decide +kernel
theorem d_Pr_addType_70 : decode b_Pr_addType 70 = .ok (.iload 4, 2) := by decide +kernel
theorem d_Pr_addType_72 : decode b_Pr_addType 72 = .ok (.iconst 1, 1) := by decide +kernel
theorem d_Pr_addType_73 : decode b_Pr_addType 73 = .ok (.iload 4, 2) := by decide +kernel
theorem d_Pr_addType_75 : decode b_Pr_addType 75 = .ok (.ishl, 1) := by decide +kernel
theorem d_Pr_addType_76 : decode b_Pr_addType 76 = .ok (.aload_n 0, 1) := by decide +kernel
theorem d_Pr_addType_77 : decode b_Pr_addType 77 = .ok (.iload_n 1, 1) := by decide +kernel
theorem d_Pr_addType_78 : decode b_Pr_addType 78 = .ok (.invokevirtual 68, 3) := by decide +kernel
theorem d_Pr_addType_81 : decode b_Pr_addType 81 = .ok (.ior, 1) := by decide +kernel
theorem d_Pr_addType_82 : decode b_Pr_addType 82 = .ok (.iastore, 1) := by decide +kernel
theorem d_Pr_addType_83 : decode b_Pr_addType 83 = .ok (.aload_n 0, 1) := by decide +kernel
theorem d_Pr_addType_84 : decode b_Pr_addType 84 = .ok (.getfield 15, 3) := by decide +kernel
theorem d_Pr_addType_87 : decode b_Pr_addType 87 = .ok (.iload 4, 2) := by decide +kernel
theorem d_Pr_addType_89 : decode b_Pr_addType 89 = .ok (.aload_n 0, 1) := by decide +kernel
theorem d_Pr_addType_90 : decode b_Pr_addType 90 = .ok (.iload_n 1, 1) := by decide +kernel
theorem d_Pr_addType_91 : decode b_Pr_addType 91 = .ok (.invokevirtual 64, 3) := by decide +kernel
theorem d_Pr_addType_94 : decode b_Pr_addType 94 = .ok (.iload_n 2, 1) := by decide +kernel
theorem d_Pr_addType_95 : decode b_Pr_addType 95 = .ok (.iadd, 1) := by decide +kernel
theorem d_Pr_addType_96 : decode b_Pr_addType 96 = .ok (.iastore, 1) := by decide +kernel
theorem d_Pr_addType_97 : decode b_Pr_addType 97 = .ok (.aload_n 0, 1) := by decide +kernel
theorem d_Pr_addType_98 : decode b_Pr_addType 98 = .ok (.getfield 18, 3) := by decide +kernel
theorem d_Pr_addType_101 : decode b_Pr_addType 101 = .ok (.iload 4, 2) := by decide +kernel
theorem d_Pr_addType_103 : decode b_Pr_addType 103 = .ok (.iconst (-1), 1) := by decide +kernel
theorem d_Pr_addType_104 : decode b_Pr_addType 104 = .ok (.iastore, 1) := by decide +kernel
theorem d_Pr_addType_105 : decode b_Pr_addType 105 = .ok (.aload_n 0, 1) := by decide +kernel
theorem d_Pr_addType_106 : decode b_Pr_addType 106 = .ok (.getfield 23, 3) := by decide +kernel
theorem d_Pr_addType_109 : decode b_Pr_addType 109 = .ok (.iload 4, 2) := by decide +kernel
theorem d_Pr_addType_111 : decode b_Pr_addType 111 = .ok (.aaload, 1) := by decide +kernel
theorem d_Pr_addType_112 : decode b_Pr_addType 112 = .ok (.iconst (-1), 1) := by decide +kernel
theorem d_Pr_addType_113 : decode b_Pr_addType 113 = .ok (.invokestatic 71, 3) := by decide +kernel
theorem d_Pr_addType_116 : decode b_Pr_addType 116 = .ok (.iload 4, 2) := by decide +kernel
theorem d_Pr_addType_118 : decode b_Pr_addType 118 = .ok (.ireturn, 1) := by decide +kernel
theorem d_Pr_isType_0 : decode b_Pr_isType 0 = .ok (.iload_n 1, 1) := by decide +kernel
theorem d_Pr_isType_1 : decode b_Pr_isType 1 = .ok (.ifCond .lt 15, 3) := by decide +kernel
theorem d_Pr_isType_4 : decode b_Pr_isType 4 = .ok (.iload_n 1, 1) := by decide +kernel
theorem d_Pr_isType_5 : decode b_Pr_isType 5 = .ok (.aload_n 0, 1) := by decide +kernel
theorem d_Pr_isType_6 : decode b_Pr_isType 6 = .ok (.getfield 60, 3) := by decide +kernel
theorem d_Pr_isType_9 : decode b_Pr_isType 9 = .ok (.if_icmp .ge 7, 3) := by decide +kernel
theorem d_Pr_isType_12 : decode b_Pr_isType 12 = .ok (.iconst 1, 1) := by decide +kernel
theorem d_Pr_isType_13 : decode b_Pr_isType 13 = .ok (.goto 4, 3) := by decide +kernel
theorem d_Pr_isType_16 : decode b_Pr_isType 16 = .ok (.iconst 0, 1) := by decide +kernel
theorem d_Pr_isType_17 : decode b_Pr_isType 17 = .ok (.ireturn, 1) := by decide +kernel
theorem d_Pr_fieldsOf_0 : decode b_Pr_fieldsOf 0 = .ok (.aload_n 0, 1) := by decide +kernel
theorem d_Pr_fieldsOf_1 : decode b_Pr_fieldsOf 1 = .ok (.iload_n 1, 1) := by decide +kernel
theorem d_Pr_fieldsOf_2 : decode b_Pr_fieldsOf 2 = .ok (.invokevirtual 56, 3) := by decide +kernel
theorem d_Pr_fieldsOf_5 : decode b_Pr_fieldsOf 5 = .ok (.ifCond .eq 12, 3) := by decide +kernel
theorem d_Pr_fieldsOf_8 : decode b_Pr_fieldsOf 8 = .ok (.aload_n 0, 1) := by decide +kernel
theorem d_Pr_fieldsOf_9 : decode b_Pr_fieldsOf 9 = .ok (.getfield 15, 3) := by decide +kernel
theorem d_Pr_fieldsOf_12 : decode b_Pr_fieldsOf 12 = .ok (.iload_n 1, 1) := by decide +kernel
theorem d_Pr_fieldsOf_13 : decode b_Pr_fieldsOf 13 = .ok (.iaload, 1) := by decide +kernel
theorem d_Pr_fieldsOf_14 : decode b_Pr_fieldsOf 14 = .ok (.goto 4, 3) := by decide +kernel
theorem d_Pr_fieldsOf_17 : decode b_Pr_fieldsOf 17 = .ok (.iconst 0, 1) := by decide +kernel
theorem d_Pr_fieldsOf_18 : decode b_Pr_fieldsOf 18 = .ok (.ireturn, 1) := by decide +kernel
theorem d_Pr_kinOf_0 : decode b_Pr_kinOf 0 = .ok (.aload_n 0, 1) := by decide +kernel
theorem d_Pr_kinOf_1 : decode b_Pr_kinOf 1 = .ok (.iload_n 1, 1) := by decide +kernel
theorem d_Pr_kinOf_2 : decode b_Pr_kinOf 2 = .ok (.invokevirtual 56, 3) := by decide +kernel
theorem d_Pr_kinOf_5 : decode b_Pr_kinOf 5 = .ok (.ifCond .eq 12, 3) := by decide +kernel
theorem d_Pr_kinOf_8 : decode b_Pr_kinOf 8 = .ok (.aload_n 0, 1) := by decide +kernel
theorem d_Pr_kinOf_9 : decode b_Pr_kinOf 9 = .ok (.getfield 9, 3) := by decide +kernel
theorem d_Pr_kinOf_12 : decode b_Pr_kinOf 12 = .ok (.iload_n 1, 1) := by decide +kernel
theorem d_Pr_kinOf_13 : decode b_Pr_kinOf 13 = .ok (.iaload, 1) := by decide +kernel
theorem d_Pr_kinOf_14 : decode b_Pr_kinOf 14 = .ok (.goto 4, 3) := by decide +kernel
theorem d_Pr_kinOf_17 : decode b_Pr_kinOf 17 = .ok (.iconst 0, 1) := by decide +kernel
theorem d_Pr_kinOf_18 : decode b_Pr_kinOf 18 = .ok (.ireturn, 1) := by decide +kernel
theorem d_Ar_fill_0 : decode b_Ar_fill 0 = .ok (.iconst 0, 1) := by decide +kernel
theorem d_Ar_fill_1 : decode b_Ar_fill 1 = .ok (.istore_n 2, 1) := by decide +kernel
theorem d_Ar_fill_2 : decode b_Ar_fill 2 = .ok (.aload_n 0, 1) := by decide +kernel
theorem d_Ar_fill_3 : decode b_Ar_fill 3 = .ok (.arraylength, 1) := by decide +kernel
theorem d_Ar_fill_4 : decode b_Ar_fill 4 = .ok (.istore_n 3, 1) := by decide +kernel
theorem d_Ar_fill_5 : decode b_Ar_fill 5 = .ok (.iload_n 2, 1) := by decide +kernel
theorem d_Ar_fill_6 : decode b_Ar_fill 6 = .ok (.iload_n 3, 1) := by decide +kernel
theorem d_Ar_fill_7 : decode b_Ar_fill 7 = .ok (.if_icmp .ge 13, 3) := by decide +kernel
theorem d_Ar_fill_10 : decode b_Ar_fill 10 = .ok (.aload_n 0, 1) := by decide +kernel
theorem d_Ar_fill_11 : decode b_Ar_fill 11 = .ok (.iload_n 2, 1) := by decide +kernel
theorem d_Ar_fill_12 : decode b_Ar_fill 12 = .ok (.iload_n 1, 1) := by decide +kernel
theorem d_Ar_fill_13 : decode b_Ar_fill 13 = .ok (.iastore, 1) := by decide +kernel
theorem d_Ar_fill_14 : decode b_Ar_fill 14 = .ok (.iinc 2 1, 3) := by decide +kernel
theorem d_Ar_fill_17 : decode b_Ar_fill 17 = .ok (.goto (-12), 3) := by decide +kernel
theorem d_Ar_fill_20 : decode b_Ar_fill 20 = .ok (.return_, 1) := by decide +kernel
theorem d_Cw_reopenUnlessNone_0 : decode b_Cw_reopenUnlessNone 0 = .ok (.aload_n 0, 1) := by decide +kernel
theorem d_Cw_reopenUnlessNone_1 : decode b_Cw_reopenUnlessNone 1 = .ok (.iload_n 1, 1) := by decide +kernel
theorem d_Cw_reopenUnlessNone_2 : decode b_Cw_reopenUnlessNone 2 = .ok (.iconst (-1), 1) := by decide +kernel
theorem d_Cw_reopenUnlessNone_3 : decode b_Cw_reopenUnlessNone 3 = .ok (.if_icmp .eq 7, 3) := by decide +kernel
theorem d_Cw_reopenUnlessNone_6 : decode b_Cw_reopenUnlessNone 6 = .ok (.iconst 1, 1) := by decide +kernel
theorem d_Cw_reopenUnlessNone_7 : decode b_Cw_reopenUnlessNone 7 = .ok (.goto 4, 3) := by decide +kernel
theorem d_Cw_reopenUnlessNone_10 : decode b_Cw_reopenUnlessNone 10 = .ok (.iconst 0, 1) := by decide +kernel
theorem d_Cw_reopenUnlessNone_11 : decode b_Cw_reopenUnlessNone 11 = .ok (.invokevirtual 64, 3) := by decide +kernel
theorem d_Cw_reopenUnlessNone_14 : decode b_Cw_reopenUnlessNone 14 = .ok (.pop, 1) := by decide +kernel
theorem d_Cw_reopenUnlessNone_15 : decode b_Cw_reopenUnlessNone 15 = .ok (.iload_n 1, 1) := by decide +kernel
theorem d_Cw_reopenUnlessNone_16 : decode b_Cw_reopenUnlessNone 16 = .ok (.ireturn, 1) := by decide +kernel
theorem d_Cw_reopenIf_0 : decode b_Cw_reopenIf 0 = .ok (.iload_n 1, 1) := by decide +kernel
theorem d_Cw_reopenIf_1 : decode b_Cw_reopenIf 1 = .ok (.ifCond .eq 13, 3) := by decide +kernel
theorem d_Cw_reopenIf_4 : decode b_Cw_reopenIf 4 = .ok (.aload_n 0, 1) := by decide +kernel
theorem d_Cw_reopenIf_5 : decode b_Cw_reopenIf 5 = .ok (.iconst 0, 1) := by decide +kernel
theorem d_Cw_reopenIf_6 : decode b_Cw_reopenIf 6 = .ok (.putfield 41, 3) := by decide +kernel
theorem d_Cw_reopenIf_9 : decode b_Cw_reopenIf 9 = .ok (.aload_n 0, 1) := by decide +kernel
theorem d_Cw_reopenIf_10 : decode b_Cw_reopenIf 10 = .ok (.iconst 0, 1) := by decide +kernel
theorem d_Cw_reopenIf_11 : decode b_Cw_reopenIf 11 = .ok (.putfield 45, 3) := by decide +kernel
theorem d_Cw_reopenIf_14 : decode b_Cw_reopenIf 14 = .ok (.iload_n 1, 1) := by decide +kernel
theorem d_Cw_reopenIf_15 : decode b_Cw_reopenIf 15 = .ok (.ireturn, 1) := by decide +kernel
theorem d_Cw_method_0 : decode b_Cw_method 0 = .ok (.aload_n 0, 1) := by decide +kernel
theorem d_Cw_method_1 : decode b_Cw_method 1 = .ok (.aload_n 0, 1) := by decide +kernel
theorem d_Cw_method_2 : decode b_Cw_method 2 = .ok (.getfield 17, 3) := by decide +kernel
theorem d_Cw_method_5 : decode b_Cw_method 5 = .ok (.iload_n 1, 1) := by decide +kernel
theorem d_Cw_method_6 : decode b_Cw_method 6 = .ok (.iload_n 2, 1) := by decide +kernel
theorem d_Cw_method_7 : decode b_Cw_method 7 = .ok (.iload_n 3, 1) := by decide +kernel
theorem d_Cw_method_8 : decode b_Cw_method 8 = .ok (.invokevirtual 56, 3) := by decide +kernel
theorem d_Cw_method_11 : decode b_Cw_method 11 = .ok (.invokevirtual 52, 3) := by decide +kernel
theorem d_Cw_method_14 : decode b_Cw_method 14 = .ok (.ireturn, 1) := by decide +kernel
theorem d_Pr_addMethod_0 : decode b_Pr_addMethod 0 = .ok (.aload_n 0, 1) := by decide +kernel
theorem d_Pr_addMethod_1 : decode b_Pr_addMethod 1 = .ok (.getfield 77, 3) := by decide +kernel
theorem d_Pr_addMethod_4 : decode b_Pr_addMethod 4 = .ok (.bipush 10, 2) := by decide +kernel
theorem d_Pr_addMethod_6 : decode b_Pr_addMethod 6 = .ok (.if_icmp .ge 11, 3) := by decide +kernel
theorem d_Pr_addMethod_9 : decode b_Pr_addMethod 9 = .ok (.aload_n 0, 1) := by decide +kernel
theorem d_Pr_addMethod_10 : decode b_Pr_addMethod 10 = .ok (.iload_n 1, 1) := by decide +kernel
theorem d_Pr_addMethod_11 : decode b_Pr_addMethod 11 = .ok (.invokevirtual 56, 3) := by decide +kernel
theorem d_Pr_addMethod_14 : decode b_Pr_addMethod 14 = .ok (.ifCond .ne 5, 3) := by decide +kernel
theorem d_Pr_addMethod_17 : decode b_Pr_addMethod 17 = .ok (.iconst (-1), 1) := by decide +kernel
theorem d_Pr_addMethod_18 : decode b_Pr_addMethod 18 = .ok (.ireturn, 1) := by decide +kernel
theorem d_Pr_addMethod_19 : decode b_Pr_addMethod 19 = .ok (.iload_n 2, 1) := by decide +kernel
theorem d_Pr_addMethod_20 : decode b_Pr_addMethod 20 = .ok (.iconst (-1), 1) := by decide +kernel
theorem d_Pr_addMethod_21 : decode b_Pr_addMethod 21 = .ok (.if_icmp .ne 7, 3) := by decide +kernel
theorem d_Pr_addMethod_24 : decode b_Pr_addMethod 24 = .ok (.iconst 1, 1) := by decide +kernel
theorem d_Pr_addMethod_25 : decode b_Pr_addMethod 25 = .ok (.goto 4, 3) := by decide +kernel
theorem d_Pr_addMethod_28 : decode b_Pr_addMethod 28 = .ok (.iconst 0, 1) := by decide +kernel
theorem d_Pr_addMethod_29 : decode b_Pr_addMethod 29 = .ok (.istore 4, 2) := by decide +kernel
theorem d_Pr_addMethod_31 : decode b_Pr_addMethod 31 = .ok (.iload 4, 2) := by decide +kernel
theorem d_Pr_addMethod_33 : decode b_Pr_addMethod 33 = .ok (.ifCond .eq 11, 3) := by decide +kernel
theorem d_Pr_addMethod_36 : decode b_Pr_addMethod 36 = .ok (.iload_n 3, 1) := by decide +kernel
theorem d_Pr_addMethod_37 : decode b_Pr_addMethod 37 = .ok (.iconst 3, 1) := by decide +kernel
theorem d_Pr_addMethod_38 : decode b_Pr_addMethod 38 = .ok (.invokestatic 80, 3) := by decide +kernel
theorem d_Pr_addMethod_41 : decode b_Pr_addMethod 41 = .ok (.goto 28, 3) := by decide +kernel
theorem d_Pr_addMethod_44 : decode b_Pr_addMethod 44 = .ok (.iload_n 2, 1) := by decide +kernel
theorem d_Pr_addMethod_45 : decode b_Pr_addMethod 45 = .ok (.iconst 4, 1) := by decide +kernel
theorem d_Pr_addMethod_46 : decode b_Pr_addMethod 46 = .ok (.invokestatic 80, 3) := by decide +kernel
theorem d_Pr_addMethod_49 : decode b_Pr_addMethod 49 = .ok (.ifCond .eq 19, 3) := by decide +kernel
theorem d_Pr_addMethod_52 : decode b_Pr_addMethod 52 = .ok (.aload_n 0, 1) := by decide +kernel
theorem d_Pr_addMethod_53 : decode b_Pr_addMethod 53 = .ok (.getfield 23, 3) := by decide +kernel
theorem d_Pr_addMethod_56 : decode b_Pr_addMethod 56 = .ok (.iload_n 1, 1) := by decide +kernel
theorem d_Pr_addMethod_57 : decode b_Pr_addMethod 57 = .ok (.aaload, 1) := by decide +kernel
theorem d_Pr_addMethod_58 : decode b_Pr_addMethod 58 = .ok (.iload_n 2, 1) := by decide +kernel
theorem d_Pr_addMethod_59 : decode b_Pr_addMethod 59 = .ok (.iaload, 1) := by decide +kernel
theorem d_Pr_addMethod_60 : decode b_Pr_addMethod 60 = .ok (.iconst (-1), 1) := by decide +kernel
theorem d_Pr_addMethod_61 : decode b_Pr_addMethod 61 = .ok (.if_icmp .ne 7, 3) := by decide +kernel
theorem d_Pr_addMethod_64 : decode b_Pr_addMethod 64 = .ok (.iconst 1, 1) := by decide +kernel
theorem d_Pr_addMethod_65 : decode b_Pr_addMethod 65 = .ok (.goto 4, 3) := by decide +kernel
theorem d_Pr_addMethod_68 : decode b_Pr_addMethod 68 = .ok (.iconst 0, 1) := by decide +kernel
theorem d_Pr_addMethod_69 : decode b_Pr_addMethod 69 = .ok (.istore 5, 2) := by decide +kernel
theorem d_Pr_addMethod_71 : decode b_Pr_addMethod 71 = .ok (.iload 5, 2) := by decide +kernel
theorem d_Pr_addMethod_73 : decode b_Pr_addMethod 73 = .ok (.ifCond .ne 5, 3) := by decide +kernel
theorem d_Pr_addMethod_76 : decode b_Pr_addMethod 76 = .ok (.iconst (-1), 1) := by decide +kernel
theorem d_Pr_addMethod_77 : decode b_Pr_addMethod 77 = .ok (.ireturn, 1) := by decide +kernel
theorem d_Pr_addMethod_78 : decode b_Pr_addMethod 78 = .ok (.aload_n 0, 1) := by decide +kernel
theorem d_Pr_addMethod_79 : decode b_Pr_addMethod 79 = .ok (.getfield 77, 3) := by decide +kernel
theorem d_Pr_addMethod_82 : decode b_Pr_addMethod 82 = .ok (.istore 6, 2) := by decide +kernel
theorem d_Pr_addMethod_84 : decode b_Pr_addMethod 84 = .ok (.aload_n 0, 1) := by decide +kernel
theorem d_Pr_addMethod_85 : decode b_Pr_addMethod 85 = .ok (.dup, 1) := by decide +kernel
theorem d_Pr_addMethod_86 : decode b_Pr_addMethod 86 = .ok (.getfield 77, 3) := by decide +kernel
theorem d_Pr_addMethod_89 : decode b_Pr_addMethod 89 = .ok (.iconst 1, 1) := by decide +kernel
theorem d_Pr_addMethod_90 : decode b_Pr_addMethod 90 = .ok (.iadd, 1) := by decide +kernel
theorem d_Pr_addMethod_91 : decode b_Pr_addMethod 91 = .ok (.putfield 77, 3) := by decide +kernel
theorem d_Pr_addMethod_94 : decode b_Pr_addMethod 94 = .ok (.aload_n 0, 1) := by decide +kernel
theorem d_Pr_addMethod_95 : decode b_Pr_addMethod 95 = .ok (.getfield 26, 3) := by decide +kernel
theorem d_Pr_addMethod_98 : decode b_Pr_addMethod 98 = .ok (.iload 6, 2) := by decide +kernel
theorem d_Pr_addMethod_100 : decode b_Pr_addMethod 100 = .ok (.iload_n 1, 1) := by decide +kernel
theorem d_Pr_addMethod_101 : decode b_Pr_addMethod 101 = .ok (.iastore, 1) := by decide +kernel
theorem d_Pr_addMethod_102 : decode b_Pr_addMethod 102 = .ok (.aload_n 0, 1) := by decide +kernel
theorem d_Pr_addMethod_103 : decode b_Pr_addMethod 103 = .ok (.getfield 29, 3) := by decide +kernel
theorem d_Pr_addMethod_106 : decode b_Pr_addMethod 106 = .ok (.iload 6, 2) := by decide +kernel
theorem d_Pr_addMethod_108 : decode b_Pr_addMethod 108 = .ok (.iload_n 2, 1) := by decide +kernel
theorem d_Pr_addMethod_109 : decode b_Pr_addMethod 109 = .ok (.iastore, 1) := by decide +kernel
theorem d_Pr_addMethod_110 : decode b_Pr_addMethod 110 = .ok (.aload_n 0, 1) := by decide +kernel
theorem d_Pr_addMethod_111 : decode b_Pr_addMethod 111 = .ok (.getfield 32, 3) := by decide +kernel
theorem d_Pr_addMethod_114 : decode b_Pr_addMethod 114 = .ok (.iload 6, 2) := by decide +kernel
theorem d_Pr_addMethod_116 : decode b_Pr_addMethod 116 = .ok (.iload 4, 2) := by decide +kernel
theorem d_Pr_addMethod_118 : decode b_Pr_addMethod 118 = .ok (.ifCond .eq 7, 3) := by decide +kernel
theorem d_Pr_addMethod_121 : decode b_Pr_addMethod 121 = .ok (.iload_n 3, 1) := by decide +kernel
theorem d_Pr_addMethod_122 : decode b_Pr_addMethod 122 = .ok (.goto 4, 3) := by decide +kernel
theorem d_Pr_addMethod_125 : decode b_Pr_addMethod 125 = .ok (.iconst 2, 1) := by decide +kernel
theorem d_Pr_addMethod_126 : decode b_Pr_addMethod 126 = .ok (.iastore, 1) := by decide +kernel
theorem d_Pr_addMethod_127 : decode b_Pr_addMethod 127 = .ok (.iload 4, 2) := by decide +kernel
theorem d_Pr_addMethod_129 : decode b_Pr_addMethod 129 = .ok (.ifCond .ne 13, 3) := by decide +kernel
theorem d_Pr_addMethod_132 : decode b_Pr_addMethod 132 = .ok (.aload_n 0, 1) := by decide +kernel
theorem d_Pr_addMethod_133 : decode b_Pr_addMethod 133 = .ok (.getfield 23, 3) := by decide +kernel
theorem d_Pr_addMethod_136 : decode b_Pr_addMethod 136 = .ok (.iload_n 1, 1) := by decide +kernel
theorem d_Pr_addMethod_137 : decode b_Pr_addMethod 137 = .ok (.aaload, 1) := by decide +kernel
theorem d_Pr_addMethod_138 : decode b_Pr_addMethod 138 = .ok (.iload_n 2, 1) := by decide +kernel
theorem d_Pr_addMethod_139 : decode b_Pr_addMethod 139 = .ok (.iload 6, 2) := by decide +kernel
theorem d_Pr_addMethod_141 : decode b_Pr_addMethod 141 = .ok (.iastore, 1) := by decide +kernel
theorem d_Pr_addMethod_142 : decode b_Pr_addMethod 142 = .ok (.iload 6, 2) := by decide +kernel
theorem d_Pr_addMethod_144 : decode b_Pr_addMethod 144 = .ok (.ireturn, 1) := by decide +kernel
theorem d_Cw_within_0 : decode b_Cw_within 0 = .ok (.iload_n 0, 1) := by decide +kernel
theorem d_Cw_within_1 : decode b_Cw_within 1 = .ok (.ifCond .lt 12, 3) := by decide +kernel
theorem d_Cw_within_4 : decode b_Cw_within 4 = .ok (.iload_n 0, 1) := by decide +kernel
theorem d_Cw_within_5 : decode b_Cw_within 5 = .ok (.iload_n 1, 1) := by decide +kernel
theorem d_Cw_within_6 : decode b_Cw_within 6 = .ok (.if_icmp .ge 7, 3) := by decide +kernel
theorem d_Cw_within_9 : decode b_Cw_within 9 = .ok (.iconst 1, 1) := by decide +kernel
theorem d_Cw_within_10 : decode b_Cw_within 10 = .ok (.goto 4, 3) := by decide +kernel
theorem d_Cw_within_13 : decode b_Cw_within 13 = .ok (.iconst 0, 1) := by decide +kernel
theorem d_Cw_within_14 : decode b_Cw_within 14 = .ok (.ireturn, 1) := by decide +kernel
theorem d_Cw_initialiser_0 : decode b_Cw_initialiser 0 = .ok (.aload_n 0, 1) := by decide +kernel
theorem d_Cw_initialiser_1 : decode b_Cw_initialiser 1 = .ok (.aload_n 0, 1) := by decide +kernel
theorem d_Cw_initialiser_2 : decode b_Cw_initialiser 2 = .ok (.getfield 17, 3) := by decide +kernel
theorem d_Cw_initialiser_5 : decode b_Cw_initialiser 5 = .ok (.iload_n 1, 1) := by decide +kernel
theorem d_Cw_initialiser_6 : decode b_Cw_initialiser 6 = .ok (.iload_n 2, 1) := by decide +kernel
theorem d_Cw_initialiser_7 : decode b_Cw_initialiser 7 = .ok (.invokevirtual 60, 3) := by decide +kernel
theorem d_Cw_initialiser_10 : decode b_Cw_initialiser 10 = .ok (.invokevirtual 64, 3) := by decide +kernel
theorem d_Cw_initialiser_13 : decode b_Cw_initialiser 13 = .ok (.ireturn, 1) := by decide +kernel
theorem d_Pr_setInitialiser_0 : decode b_Pr_setInitialiser 0 = .ok (.aload_n 0, 1) := by decide +kernel
theorem d_Pr_setInitialiser_1 : decode b_Pr_setInitialiser 1 = .ok (.iload_n 1, 1) := by decide +kernel
theorem d_Pr_setInitialiser_2 : decode b_Pr_setInitialiser 2 = .ok (.invokevirtual 56, 3) := by decide +kernel
theorem d_Pr_setInitialiser_5 : decode b_Pr_setInitialiser 5 = .ok (.ifCond .eq 20, 3) := by decide +kernel
theorem d_Pr_setInitialiser_8 : decode b_Pr_setInitialiser 8 = .ok (.aload_n 0, 1) := by decide +kernel
theorem d_Pr_setInitialiser_9 : decode b_Pr_setInitialiser 9 = .ok (.iload_n 2, 1) := by decide +kernel
theorem d_Pr_setInitialiser_10 : decode b_Pr_setInitialiser 10 = .ok (.invokevirtual 84, 3) := by decide +kernel
theorem d_Pr_setInitialiser_13 : decode b_Pr_setInitialiser 13 = .ok (.ifCond .eq 12, 3) := by decide +kernel
theorem d_Pr_setInitialiser_16 : decode b_Pr_setInitialiser 16 = .ok (.aload_n 0, 1) := by decide +kernel
theorem d_Pr_setInitialiser_17 : decode b_Pr_setInitialiser 17 = .ok (.getfield 32, 3) := by decide +kernel
theorem d_Pr_setInitialiser_20 : decode b_Pr_setInitialiser 20 = .ok (.iload_n 2, 1) := by decide +kernel
theorem d_Pr_setInitialiser_21 : decode b_Pr_setInitialiser 21 = .ok (.iaload, 1) := by decide +kernel
theorem d_Pr_setInitialiser_22 : decode b_Pr_setInitialiser 22 = .ok (.ifCond .eq 5, 3) := by decide +kernel
theorem d_Pr_setInitialiser_25 : decode b_Pr_setInitialiser 25 = .ok (.iconst 0, 1) := by decide +kernel
theorem d_Pr_setInitialiser_26 : decode b_Pr_setInitialiser 26 = .ok (.ireturn, 1) := by decide +kernel
theorem d_Pr_setInitialiser_27 : decode b_Pr_setInitialiser 27 = .ok (.aload_n 0, 1) := by decide +kernel
theorem d_Pr_setInitialiser_28 : decode b_Pr_setInitialiser 28 = .ok (.getfield 18, 3) := by decide +kernel
theorem d_Pr_setInitialiser_31 : decode b_Pr_setInitialiser 31 = .ok (.iload_n 1, 1) := by decide +kernel
theorem d_Pr_setInitialiser_32 : decode b_Pr_setInitialiser 32 = .ok (.iload_n 2, 1) := by decide +kernel
theorem d_Pr_setInitialiser_33 : decode b_Pr_setInitialiser 33 = .ok (.iastore, 1) := by decide +kernel
theorem d_Pr_setInitialiser_34 : decode b_Pr_setInitialiser 34 = .ok (.iconst 1, 1) := by decide +kernel
theorem d_Pr_setInitialiser_35 : decode b_Pr_setInitialiser 35 = .ok (.ireturn, 1) := by decide +kernel
theorem d_Pr_isPlain_0 : decode b_Pr_isPlain 0 = .ok (.aload_n 0, 1) := by decide +kernel
theorem d_Pr_isPlain_1 : decode b_Pr_isPlain 1 = .ok (.iload_n 1, 1) := by decide +kernel
theorem d_Pr_isPlain_2 : decode b_Pr_isPlain 2 = .ok (.invokevirtual 87, 3) := by decide +kernel
theorem d_Pr_isPlain_5 : decode b_Pr_isPlain 5 = .ok (.ifCond .eq 17, 3) := by decide +kernel
theorem d_Pr_isPlain_8 : decode b_Pr_isPlain 8 = .ok (.aload_n 0, 1) := by decide +kernel
theorem d_Pr_isPlain_9 : decode b_Pr_isPlain 9 = .ok (.getfield 29, 3) := by decide +kernel
theorem d_Pr_isPlain_12 : decode b_Pr_isPlain 12 = .ok (.iload_n 1, 1) := by decide +kernel
theorem d_Pr_isPlain_13 : decode b_Pr_isPlain 13 = .ok (.iaload, 1) := by decide +kernel
theorem d_Pr_isPlain_14 : decode b_Pr_isPlain 14 = .ok (.iconst (-1), 1) := by decide +kernel
theorem d_Pr_isPlain_15 : decode b_Pr_isPlain 15 = .ok (.if_icmp .ne 7, 3) := by decide +kernel
theorem d_Pr_isPlain_18 : decode b_Pr_isPlain 18 = .ok (.iconst 1, 1) := by decide +kernel
theorem d_Pr_isPlain_19 : decode b_Pr_isPlain 19 = .ok (.goto 4, 3) := by decide +kernel
theorem d_Pr_isPlain_22 : decode b_Pr_isPlain 22 = .ok (.iconst 0, 1) := by decide +kernel
theorem d_Pr_isPlain_23 : decode b_Pr_isPlain 23 = .ok (.ireturn, 1) := by decide +kernel
theorem d_Pr_isMethod_0 : decode b_Pr_isMethod 0 = .ok (.iload_n 1, 1) := by decide +kernel
theorem d_Pr_isMethod_1 : decode b_Pr_isMethod 1 = .ok (.ifCond .lt 15, 3) := by decide +kernel
theorem d_Pr_isMethod_4 : decode b_Pr_isMethod 4 = .ok (.iload_n 1, 1) := by decide +kernel
theorem d_Pr_isMethod_5 : decode b_Pr_isMethod 5 = .ok (.aload_n 0, 1) := by decide +kernel
theorem d_Pr_isMethod_6 : decode b_Pr_isMethod 6 = .ok (.getfield 77, 3) := by decide +kernel
theorem d_Pr_isMethod_9 : decode b_Pr_isMethod 9 = .ok (.if_icmp .ge 7, 3) := by decide +kernel
theorem d_Pr_isMethod_12 : decode b_Pr_isMethod 12 = .ok (.iconst 1, 1) := by decide +kernel
theorem d_Pr_isMethod_13 : decode b_Pr_isMethod 13 = .ok (.goto 4, 3) := by decide +kernel
theorem d_Pr_isMethod_16 : decode b_Pr_isMethod 16 = .ok (.iconst 0, 1) := by decide +kernel
theorem d_Pr_isMethod_17 : decode b_Pr_isMethod 17 = .ok (.ireturn, 1) := by decide +kernel
theorem d_Cw_code_0 : decode b_Cw_code 0 = .ok (.aload_n 0, 1) := by decide +kernel
theorem d_Cw_code_1 : decode b_Cw_code 1 = .ok (.aload_n 0, 1) := by decide +kernel
theorem d_Cw_code_2 : decode b_Cw_code 2 = .ok (.getfield 17, 3) := by decide +kernel
theorem d_Cw_code_5 : decode b_Cw_code 5 = .ok (.iload_n 1, 1) := by decide +kernel
theorem d_Cw_code_6 : decode b_Cw_code 6 = .ok (.iload_n 2, 1) := by decide +kernel
theorem d_Cw_code_7 : decode b_Cw_code 7 = .ok (.iload_n 3, 1) := by decide +kernel
theorem d_Cw_code_8 : decode b_Cw_code 8 = .ok (.invokevirtual 68, 3) := by decide +kernel
theorem d_Cw_code_11 : decode b_Cw_code 11 = .ok (.invokevirtual 52, 3) := by decide +kernel
theorem d_Cw_code_14 : decode b_Cw_code 14 = .ok (.ireturn, 1) := by decide +kernel
theorem d_Pr_addCode_0 : decode b_Pr_addCode 0 = .ok (.aload_n 0, 1) := by decide +kernel
theorem d_Pr_addCode_1 : decode b_Pr_addCode 1 = .ok (.iload_n 1, 1) := by decide +kernel
theorem d_Pr_addCode_2 : decode b_Pr_addCode 2 = .ok (.invokevirtual 87, 3) := by decide +kernel
theorem d_Pr_addCode_5 : decode b_Pr_addCode 5 = .ok (.ifCond .eq 32, 3) := by decide +kernel
theorem d_Pr_addCode_8 : decode b_Pr_addCode 8 = .ok (.aload_n 0, 1) := by decide +kernel
theorem d_Pr_addCode_9 : decode b_Pr_addCode 9 = .ok (.getfield 35, 3) := by decide +kernel
theorem d_Pr_addCode_12 : decode b_Pr_addCode 12 = .ok (.iload_n 1, 1) := by decide +kernel
theorem d_Pr_addCode_13 : decode b_Pr_addCode 13 = .ok (.iaload, 1) := by decide +kernel
theorem d_Pr_addCode_14 : decode b_Pr_addCode 14 = .ok (.bipush 20, 2) := by decide +kernel
theorem d_Pr_addCode_16 : decode b_Pr_addCode 16 = .ok (.if_icmp .ge 21, 3) := by decide +kernel
theorem d_Pr_addCode_19 : decode b_Pr_addCode 19 = .ok (.iload_n 2, 1) := by decide +kernel
theorem d_Pr_addCode_20 : decode b_Pr_addCode 20 = .ok (.bipush 23, 2) := by decide +kernel
theorem d_Pr_addCode_22 : decode b_Pr_addCode 22 = .ok (.invokestatic 80, 3) := by decide +kernel
theorem d_Pr_addCode_25 : decode b_Pr_addCode 25 = .ok (.ifCond .eq 12, 3) := by decide +kernel
theorem d_Pr_addCode_28 : decode b_Pr_addCode 28 = .ok (.aload_n 0, 1) := by decide +kernel
theorem d_Pr_addCode_29 : decode b_Pr_addCode 29 = .ok (.iload_n 2, 1) := by decide +kernel
theorem d_Pr_addCode_30 : decode b_Pr_addCode 30 = .ok (.iload_n 3, 1) := by decide +kernel
theorem d_Pr_addCode_31 : decode b_Pr_addCode 31 = .ok (.invokevirtual 92, 3) := by decide +kernel
theorem d_Pr_addCode_34 : decode b_Pr_addCode 34 = .ok (.ifCond .ne 5, 3) := by decide +kernel
theorem d_Pr_addCode_37 : decode b_Pr_addCode 37 = .ok (.iconst (-1), 1) := by decide +kernel
theorem d_Pr_addCode_38 : decode b_Pr_addCode 38 = .ok (.ireturn, 1) := by decide +kernel
theorem d_Pr_addCode_39 : decode b_Pr_addCode 39 = .ok (.aload_n 0, 1) := by decide +kernel
theorem d_Pr_addCode_40 : decode b_Pr_addCode 40 = .ok (.getfield 35, 3) := by decide +kernel
theorem d_Pr_addCode_43 : decode b_Pr_addCode 43 = .ok (.iload_n 1, 1) := by decide +kernel
theorem d_Pr_addCode_44 : decode b_Pr_addCode 44 = .ok (.iaload, 1) := by decide +kernel
theorem d_Pr_addCode_45 : decode b_Pr_addCode 45 = .ok (.istore 4, 2) := by decide +kernel
theorem d_Pr_addCode_47 : decode b_Pr_addCode 47 = .ok (.aload_n 0, 1) := by decide +kernel
theorem d_Pr_addCode_48 : decode b_Pr_addCode 48 = .ok (.getfield 35, 3) := by decide +kernel
theorem d_Pr_addCode_51 : decode b_Pr_addCode 51 = .ok (.iload_n 1, 1) := by decide +kernel
theorem d_Pr_addCode_52 : decode b_Pr_addCode 52 = .ok (.dup2, 1) := by decide +kernel
theorem d_Pr_addCode_53 : decode b_Pr_addCode 53 = .ok (.iaload, 1) := by decide +kernel
theorem d_Pr_addCode_54 : decode b_Pr_addCode 54 = .ok (.iconst 1, 1) := by decide +kernel
theorem d_Pr_addCode_55 : decode b_Pr_addCode 55 = .ok (.iadd, 1) := by decide +kernel
theorem d_Pr_addCode_56 : decode b_Pr_addCode 56 = .ok (.iastore, 1) := by decide +kernel
theorem d_Pr_addCode_57 : decode b_Pr_addCode 57 = .ok (.aload_n 0, 1) := by decide +kernel
theorem d_Pr_addCode_58 : decode b_Pr_addCode 58 = .ok (.getfield 38, 3) := by decide +kernel
theorem d_Pr_addCode_61 : decode b_Pr_addCode 61 = .ok (.iload_n 1, 1) := by decide +kernel
theorem d_Pr_addCode_62 : decode b_Pr_addCode 62 = .ok (.aaload, 1) := by decide +kernel
theorem d_Pr_addCode_63 : decode b_Pr_addCode 63 = .ok (.iload 4, 2) := by decide +kernel
theorem d_Pr_addCode_65 : decode b_Pr_addCode 65 = .ok (.iload_n 2, 1) := by decide +kernel
theorem d_Pr_addCode_66 : decode b_Pr_addCode 66 = .ok (.iastore, 1) := by decide +kernel
theorem d_Pr_addCode_67 : decode b_Pr_addCode 67 = .ok (.aload_n 0, 1) := by decide +kernel
theorem d_Pr_addCode_68 : decode b_Pr_addCode 68 = .ok (.getfield 41, 3) := by decide +kernel
theorem d_Pr_addCode_71 : decode b_Pr_addCode 71 = .ok (.iload_n 1, 1) := by decide +kernel
theorem d_Pr_addCode_72 : decode b_Pr_addCode 72 = .ok (.aaload, 1) := by decide +kernel
theorem d_Pr_addCode_73 : decode b_Pr_addCode 73 = .ok (.iload 4, 2) := by decide +kernel
theorem d_Pr_addCode_75 : decode b_Pr_addCode 75 = .ok (.iload_n 3, 1) := by decide +kernel
theorem d_Pr_addCode_76 : decode b_Pr_addCode 76 = .ok (.iastore, 1) := by decide +kernel
theorem d_Pr_addCode_77 : decode b_Pr_addCode 77 = .ok (.iload 4, 2) := by decide +kernel
theorem d_Pr_addCode_79 : decode b_Pr_addCode 79 = .ok (.ireturn, 1) := by decide +kernel
theorem d_Pr_operandFits_0 : decode b_Pr_operandFits 0 = .ok (.iload_n 1, 1) := by decide +kernel
theorem d_Pr_operandFits_1 : decode b_Pr_operandFits 1 = .ok (.tableswitch 129 1 19 #[91, 97, 97, 129, 129, 129, 129, 129, 103, 103, 91, 110, 110, 91, 91, 117, 123, 91, 91], 91) := by decide +kernel
theorem d_Pr_operandFits_92 : decode b_Pr_operandFits 92 = .ok (.aload_n 0, 1) := by decide +kernel
theorem d_Pr_operandFits_93 : decode b_Pr_operandFits 93 = .ok (.iload_n 2, 1) := by decide +kernel
theorem d_Pr_operandFits_94 : decode b_Pr_operandFits 94 = .ok (.invokevirtual 56, 3) := by decide +kernel
theorem d_Pr_operandFits_97 : decode b_Pr_operandFits 97 = .ok (.ireturn, 1) := by decide +kernel
theorem d_Pr_operandFits_98 : decode b_Pr_operandFits 98 = .ok (.iload_n 2, 1) := by decide +kernel
theorem d_Pr_operandFits_99 : decode b_Pr_operandFits 99 = .ok (.iconst 4, 1) := by decide +kernel
theorem d_Pr_operandFits_100 : decode b_Pr_operandFits 100 = .ok (.invokestatic 80, 3) := by decide +kernel
theorem d_Pr_operandFits_103 : decode b_Pr_operandFits 103 = .ok (.ireturn, 1) := by decide +kernel
theorem d_Pr_operandFits_104 : decode b_Pr_operandFits 104 = .ok (.iload_n 2, 1) := by decide +kernel
theorem d_Pr_operandFits_105 : decode b_Pr_operandFits 105 = .ok (.bipush 20, 2) := by decide +kernel
theorem d_Pr_operandFits_107 : decode b_Pr_operandFits 107 = .ok (.invokestatic 80, 3) := by decide +kernel
theorem d_Pr_operandFits_110 : decode b_Pr_operandFits 110 = .ok (.ireturn, 1) := by decide +kernel
theorem d_Pr_operandFits_111 : decode b_Pr_operandFits 111 = .ok (.iload_n 2, 1) := by decide +kernel
theorem d_Pr_operandFits_112 : decode b_Pr_operandFits 112 = .ok (.bipush 6, 2) := by decide +kernel
theorem d_Pr_operandFits_114 : decode b_Pr_operandFits 114 = .ok (.invokestatic 80, 3) := by decide +kernel
theorem d_Pr_operandFits_117 : decode b_Pr_operandFits 117 = .ok (.ireturn, 1) := by decide +kernel
theorem d_Pr_operandFits_118 : decode b_Pr_operandFits 118 = .ok (.aload_n 0, 1) := by decide +kernel
theorem d_Pr_operandFits_119 : decode b_Pr_operandFits 119 = .ok (.iload_n 2, 1) := by decide +kernel
theorem d_Pr_operandFits_120 : decode b_Pr_operandFits 120 = .ok (.invokevirtual 84, 3) := by decide +kernel
theorem d_Pr_operandFits_123 : decode b_Pr_operandFits 123 = .ok (.ireturn, 1) := by decide +kernel
theorem d_Pr_operandFits_124 : decode b_Pr_operandFits 124 = .ok (.iload_n 2, 1) := by decide +kernel
theorem d_Pr_operandFits_125 : decode b_Pr_operandFits 125 = .ok (.iconst 4, 1) := by decide +kernel
theorem d_Pr_operandFits_126 : decode b_Pr_operandFits 126 = .ok (.invokestatic 80, 3) := by decide +kernel
theorem d_Pr_operandFits_129 : decode b_Pr_operandFits 129 = .ok (.ireturn, 1) := by decide +kernel
theorem d_Pr_operandFits_130 : decode b_Pr_operandFits 130 = .ok (.iconst 1, 1) := by decide +kernel
theorem d_Pr_operandFits_131 : decode b_Pr_operandFits 131 = .ok (.ireturn, 1) := by decide +kernel
theorem d_Cw_guard_0 : decode b_Cw_guard 0 = .ok (.aload_n 0, 1) := by decide +kernel
theorem d_Cw_guard_1 : decode b_Cw_guard 1 = .ok (.aload_n 0, 1) := by decide +kernel
theorem d_Cw_guard_2 : decode b_Cw_guard 2 = .ok (.getfield 17, 3) := by decide +kernel
theorem d_Cw_guard_5 : decode b_Cw_guard 5 = .ok (.iload_n 1, 1) := by decide +kernel
theorem d_Cw_guard_6 : decode b_Cw_guard 6 = .ok (.iload_n 2, 1) := by decide +kernel
theorem d_Cw_guard_7 : decode b_Cw_guard 7 = .ok (.iload_n 3, 1) := by decide +kernel
theorem d_Cw_guard_8 : decode b_Cw_guard 8 = .ok (.iload 4, 2) := by decide +kernel
theorem d_Cw_guard_10 : decode b_Cw_guard 10 = .ok (.invokevirtual 71, 3) := by decide +kernel
theorem d_Cw_guard_13 : decode b_Cw_guard 13 = .ok (.invokevirtual 64, 3) := by decide +kernel
theorem d_Cw_guard_16 : decode b_Cw_guard 16 = .ok (.ireturn, 1) := by decide +kernel
theorem d_Pr_addGuard_0 : decode b_Pr_addGuard 0 = .ok (.aload_n 0, 1) := by decide +kernel
theorem d_Pr_addGuard_1 : decode b_Pr_addGuard 1 = .ok (.iload_n 1, 1) := by decide +kernel
theorem d_Pr_addGuard_2 : decode b_Pr_addGuard 2 = .ok (.invokevirtual 87, 3) := by decide +kernel
theorem d_Pr_addGuard_5 : decode b_Pr_addGuard 5 = .ok (.ifCond .eq 38, 3) := by decide +kernel
theorem d_Pr_addGuard_8 : decode b_Pr_addGuard 8 = .ok (.aload_n 0, 1) := by decide +kernel
theorem d_Pr_addGuard_9 : decode b_Pr_addGuard 9 = .ok (.getfield 44, 3) := by decide +kernel
theorem d_Pr_addGuard_12 : decode b_Pr_addGuard 12 = .ok (.iload_n 1, 1) := by decide +kernel
theorem d_Pr_addGuard_13 : decode b_Pr_addGuard 13 = .ok (.iaload, 1) := by decide +kernel
theorem d_Pr_addGuard_14 : decode b_Pr_addGuard 14 = .ok (.iconst 3, 1) := by decide +kernel
theorem d_Pr_addGuard_15 : decode b_Pr_addGuard 15 = .ok (.if_icmp .ge 28, 3) := by decide +kernel
theorem d_Pr_addGuard_18 : decode b_Pr_addGuard 18 = .ok (.iload_n 2, 1) := by decide +kernel
theorem d_Pr_addGuard_19 : decode b_Pr_addGuard 19 = .ok (.ifCond .lt 24, 3) := by decide +kernel
theorem d_Pr_addGuard_22 : decode b_Pr_addGuard 22 = .ok (.iload_n 2, 1) := by decide +kernel
theorem d_Pr_addGuard_23 : decode b_Pr_addGuard 23 = .ok (.iload_n 3, 1) := by decide +kernel
theorem d_Pr_addGuard_24 : decode b_Pr_addGuard 24 = .ok (.if_icmp .ge 19, 3) := by decide +kernel
theorem d_Pr_addGuard_27 : decode b_Pr_addGuard 27 = .ok (.iload_n 3, 1) := by decide +kernel
theorem d_Pr_addGuard_28 : decode b_Pr_addGuard 28 = .ok (.bipush 20, 2) := by decide +kernel
theorem d_Pr_addGuard_30 : decode b_Pr_addGuard 30 = .ok (.if_icmp .gt 13, 3) := by decide +kernel
theorem d_Pr_addGuard_33 : decode b_Pr_addGuard 33 = .ok (.iload 4, 2) := by decide +kernel
theorem d_Pr_addGuard_35 : decode b_Pr_addGuard 35 = .ok (.bipush 20, 2) := by decide +kernel
theorem d_Pr_addGuard_37 : decode b_Pr_addGuard 37 = .ok (.invokestatic 80, 3) := by decide +kernel
theorem d_Pr_addGuard_40 : decode b_Pr_addGuard 40 = .ok (.ifCond .ne 5, 3) := by decide +kernel
theorem d_Pr_addGuard_43 : decode b_Pr_addGuard 43 = .ok (.iconst 0, 1) := by decide +kernel
theorem d_Pr_addGuard_44 : decode b_Pr_addGuard 44 = .ok (.ireturn, 1) := by decide +kernel
theorem d_Pr_addGuard_45 : decode b_Pr_addGuard 45 = .ok (.aload_n 0, 1) := by decide +kernel
theorem d_Pr_addGuard_46 : decode b_Pr_addGuard 46 = .ok (.getfield 44, 3) := by decide +kernel
theorem d_Pr_addGuard_49 : decode b_Pr_addGuard 49 = .ok (.iload_n 1, 1) := by decide +kernel
theorem d_Pr_addGuard_50 : decode b_Pr_addGuard 50 = .ok (.iaload, 1) := by decide +kernel
theorem d_Pr_addGuard_51 : decode b_Pr_addGuard 51 = .ok (.istore 5, 2) := by decide +kernel
theorem d_Pr_addGuard_53 : decode b_Pr_addGuard 53 = .ok (.aload_n 0, 1) := by decide +kernel
theorem d_Pr_addGuard_54 : decode b_Pr_addGuard 54 = .ok (.getfield 44, 3) := by decide +kernel
theorem d_Pr_addGuard_57 : decode b_Pr_addGuard 57 = .ok (.iload_n 1, 1) := by decide +kernel
theorem d_Pr_addGuard_58 : decode b_Pr_addGuard 58 = .ok (.dup2, 1) := by decide +kernel
theorem d_Pr_addGuard_59 : decode b_Pr_addGuard 59 = .ok (.iaload, 1) := by decide +kernel
theorem d_Pr_addGuard_60 : decode b_Pr_addGuard 60 = .ok (.iconst 1, 1) := by decide +kernel
theorem d_Pr_addGuard_61 : decode b_Pr_addGuard 61 = .ok (.iadd, 1) := by decide +kernel
theorem d_Pr_addGuard_62 : decode b_Pr_addGuard 62 = .ok (.iastore, 1) := by decide +kernel
theorem d_Pr_addGuard_63 : decode b_Pr_addGuard 63 = .ok (.aload_n 0, 1) := by decide +kernel
theorem d_Pr_addGuard_64 : decode b_Pr_addGuard 64 = .ok (.getfield 47, 3) := by decide +kernel
theorem d_Pr_addGuard_67 : decode b_Pr_addGuard 67 = .ok (.iload_n 1, 1) := by decide +kernel
theorem d_Pr_addGuard_68 : decode b_Pr_addGuard 68 = .ok (.aaload, 1) := by decide +kernel
theorem d_Pr_addGuard_69 : decode b_Pr_addGuard 69 = .ok (.iload 5, 2) := by decide +kernel
theorem d_Pr_addGuard_71 : decode b_Pr_addGuard 71 = .ok (.iload_n 2, 1) := by decide +kernel
theorem d_Pr_addGuard_72 : decode b_Pr_addGuard 72 = .ok (.iastore, 1) := by decide +kernel
theorem d_Pr_addGuard_73 : decode b_Pr_addGuard 73 = .ok (.aload_n 0, 1) := by decide +kernel
theorem d_Pr_addGuard_74 : decode b_Pr_addGuard 74 = .ok (.getfield 50, 3) := by decide +kernel
theorem d_Pr_addGuard_77 : decode b_Pr_addGuard 77 = .ok (.iload_n 1, 1) := by decide +kernel
theorem d_Pr_addGuard_78 : decode b_Pr_addGuard 78 = .ok (.aaload, 1) := by decide +kernel
theorem d_Pr_addGuard_79 : decode b_Pr_addGuard 79 = .ok (.iload 5, 2) := by decide +kernel
theorem d_Pr_addGuard_81 : decode b_Pr_addGuard 81 = .ok (.iload_n 3, 1) := by decide +kernel
theorem d_Pr_addGuard_82 : decode b_Pr_addGuard 82 = .ok (.iastore, 1) := by decide +kernel
theorem d_Pr_addGuard_83 : decode b_Pr_addGuard 83 = .ok (.aload_n 0, 1) := by decide +kernel
theorem d_Pr_addGuard_84 : decode b_Pr_addGuard 84 = .ok (.getfield 53, 3) := by decide +kernel
theorem d_Pr_addGuard_87 : decode b_Pr_addGuard 87 = .ok (.iload_n 1, 1) := by decide +kernel
theorem d_Pr_addGuard_88 : decode b_Pr_addGuard 88 = .ok (.aaload, 1) := by decide +kernel
theorem d_Pr_addGuard_89 : decode b_Pr_addGuard 89 = .ok (.iload 5, 2) := by decide +kernel
theorem d_Pr_addGuard_91 : decode b_Pr_addGuard 91 = .ok (.iload 4, 2) := by decide +kernel
theorem d_Pr_addGuard_93 : decode b_Pr_addGuard 93 = .ok (.iastore, 1) := by decide +kernel
theorem d_Pr_addGuard_94 : decode b_Pr_addGuard 94 = .ok (.iconst 1, 1) := by decide +kernel
theorem d_Pr_addGuard_95 : decode b_Pr_addGuard 95 = .ok (.ireturn, 1) := by decide +kernel
theorem d_Cw_close_0 : decode b_Cw_close 0 = .ok (.aload_n 0, 1) := by decide +kernel
theorem d_Cw_close_1 : decode b_Cw_close 1 = .ok (.getfield 41, 3) := by decide +kernel
theorem d_Cw_close_4 : decode b_Cw_close 4 = .ok (.ifCond .eq 5, 3) := by decide +kernel
theorem d_Cw_close_7 : decode b_Cw_close 7 = .ok (.iconst (-1), 1) := by decide +kernel
theorem d_Cw_close_8 : decode b_Cw_close 8 = .ok (.ireturn, 1) := by decide +kernel
theorem d_Cw_close_9 : decode b_Cw_close 9 = .ok (.aload_n 0, 1) := by decide +kernel
theorem d_Cw_close_10 : decode b_Cw_close 10 = .ok (.getfield 17, 3) := by decide +kernel
theorem d_Cw_close_13 : decode b_Cw_close 13 = .ok (.invokevirtual 75, 3) := by decide +kernel
theorem d_Cw_close_16 : decode b_Cw_close 16 = .ok (.ifCond .ne 6, 3) := by decide +kernel
theorem d_Cw_close_19 : decode b_Cw_close 19 = .ok (.bipush 10, 2) := by decide +kernel
theorem d_Cw_close_21 : decode b_Cw_close 21 = .ok (.ireturn, 1) := by decide +kernel
theorem d_Cw_close_22 : decode b_Cw_close 22 = .ok (.iconst 0, 1) := by decide +kernel
theorem d_Cw_close_23 : decode b_Cw_close 23 = .ok (.istore_n 1, 1) := by decide +kernel
theorem d_Cw_close_24 : decode b_Cw_close 24 = .ok (.iload_n 1, 1) := by decide +kernel
theorem d_Cw_close_25 : decode b_Cw_close 25 = .ok (.aload_n 0, 1) := by decide +kernel
theorem d_Cw_close_26 : decode b_Cw_close 26 = .ok (.getfield 17, 3) := by decide +kernel
theorem d_Cw_close_29 : decode b_Cw_close 29 = .ok (.invokevirtual 79, 3) := by decide +kernel
theorem d_Cw_close_32 : decode b_Cw_close 32 = .ok (.if_icmp .ge 22, 3) := by decide +kernel
theorem d_Cw_close_35 : decode b_Cw_close 35 = .ok (.aload_n 0, 1) := by decide +kernel
theorem d_Cw_close_36 : decode b_Cw_close 36 = .ok (.getfield 21, 3) := by decide +kernel
theorem d_Cw_close_39 : decode b_Cw_close 39 = .ok (.iload_n 1, 1) := by decide +kernel
theorem d_Cw_close_40 : decode b_Cw_close 40 = .ok (.invokevirtual 83, 3) := by decide +kernel
theorem d_Cw_close_43 : decode b_Cw_close 43 = .ok (.ifCond .ne 5, 3) := by decide +kernel
theorem d_Cw_close_46 : decode b_Cw_close 46 = .ok (.iload_n 1, 1) := by decide +kernel
theorem d_Cw_close_47 : decode b_Cw_close 47 = .ok (.ireturn, 1) := by decide +kernel
theorem d_Cw_close_48 : decode b_Cw_close 48 = .ok (.iinc 1 1, 3) := by decide +kernel
theorem d_Cw_close_51 : decode b_Cw_close 51 = .ok (.goto (-27), 3) := by decide +kernel
theorem d_Cw_close_54 : decode b_Cw_close 54 = .ok (.aload_n 0, 1) := by decide +kernel
theorem d_Cw_close_55 : decode b_Cw_close 55 = .ok (.getfield 30, 3) := by decide +kernel
theorem d_Cw_close_58 : decode b_Cw_close 58 = .ok (.invokevirtual 87, 3) := by decide +kernel
theorem d_Cw_close_61 : decode b_Cw_close 61 = .ok (.aload_n 0, 1) := by decide +kernel
theorem d_Cw_close_62 : decode b_Cw_close 62 = .ok (.iconst 1, 1) := by decide +kernel
theorem d_Cw_close_63 : decode b_Cw_close 63 = .ok (.putfield 41, 3) := by decide +kernel
theorem d_Cw_close_66 : decode b_Cw_close 66 = .ok (.iconst (-1), 1) := by decide +kernel
theorem d_Cw_close_67 : decode b_Cw_close 67 = .ok (.ireturn, 1) := by decide +kernel
theorem d_Pr_hasStart_0 : decode b_Pr_hasStart 0 = .ok (.aload_n 0, 1) := by decide +kernel
theorem d_Pr_hasStart_1 : decode b_Pr_hasStart 1 = .ok (.iconst 0, 1) := by decide +kernel
theorem d_Pr_hasStart_2 : decode b_Pr_hasStart 2 = .ok (.invokevirtual 84, 3) := by decide +kernel
theorem d_Pr_hasStart_5 : decode b_Pr_hasStart 5 = .ok (.ifCond .eq 17, 3) := by decide +kernel
theorem d_Pr_hasStart_8 : decode b_Pr_hasStart 8 = .ok (.aload_n 0, 1) := by decide +kernel
theorem d_Pr_hasStart_9 : decode b_Pr_hasStart 9 = .ok (.getfield 32, 3) := by decide +kernel
theorem d_Pr_hasStart_12 : decode b_Pr_hasStart 12 = .ok (.iconst 0, 1) := by decide +kernel
theorem d_Pr_hasStart_13 : decode b_Pr_hasStart 13 = .ok (.iaload, 1) := by decide +kernel
theorem d_Pr_hasStart_14 : decode b_Pr_hasStart 14 = .ok (.iconst 1, 1) := by decide +kernel
theorem d_Pr_hasStart_15 : decode b_Pr_hasStart 15 = .ok (.if_icmp .ne 7, 3) := by decide +kernel
theorem d_Pr_hasStart_18 : decode b_Pr_hasStart 18 = .ok (.iconst 1, 1) := by decide +kernel
theorem d_Pr_hasStart_19 : decode b_Pr_hasStart 19 = .ok (.goto 4, 3) := by decide +kernel
theorem d_Pr_hasStart_22 : decode b_Pr_hasStart 22 = .ok (.iconst 0, 1) := by decide +kernel
theorem d_Pr_hasStart_23 : decode b_Pr_hasStart 23 = .ok (.ireturn, 1) := by decide +kernel
theorem d_Pr_methodCount_0 : decode b_Pr_methodCount 0 = .ok (.aload_n 0, 1) := by decide +kernel
theorem d_Pr_methodCount_1 : decode b_Pr_methodCount 1 = .ok (.getfield 77, 3) := by decide +kernel
theorem d_Pr_methodCount_4 : decode b_Pr_methodCount 4 = .ok (.ireturn, 1) := by decide +kernel
theorem d_Ch_isSound_0 : decode b_Ch_isSound 0 = .ok (.aload_n 0, 1) := by decide +kernel
theorem d_Ch_isSound_1 : decode b_Ch_isSound 1 = .ok (.iload_n 1, 1) := by decide +kernel
theorem d_Ch_isSound_2 : decode b_Ch_isSound 2 = .ok (.putfield 29, 3) := by decide +kernel
theorem d_Ch_isSound_5 : decode b_Ch_isSound 5 = .ok (.aload_n 0, 1) := by decide +kernel
theorem d_Ch_isSound_6 : decode b_Ch_isSound 6 = .ok (.iconst 0, 1) := by decide +kernel
theorem d_Ch_isSound_7 : decode b_Ch_isSound 7 = .ok (.putfield 33, 3) := by decide +kernel
theorem d_Ch_isSound_10 : decode b_Ch_isSound 10 = .ok (.aload_n 0, 1) := by decide +kernel
