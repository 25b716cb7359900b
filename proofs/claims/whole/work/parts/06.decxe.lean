theorem d_Ma_printOf_9 : decode b_Ma_printOf 9 = .ok (.aload_n 0, 1) := by decide +kernel
theorem d_Ma_printOf_10 : decode b_Ma_printOf 10 = .ok (.getfield 30, 3) := by decide +kernel
theorem d_Ma_printOf_13 : decode b_Ma_printOf 13 = .ok (.iload_n 1, 1) := by decide +kernel
theorem d_Ma_printOf_14 : decode b_Ma_printOf 14 = .ok (.iaload, 1) := by decide +kernel
theorem d_Ma_printOf_15 : decode b_Ma_printOf 15 = .ok (.goto 4, 3) := by decide +kernel
theorem d_Ma_printOf_18 : decode b_Ma_printOf 18 = .ok (.iconst 0, 1) := by decide +kernel
theorem d_Ma_printOf_19 : decode b_Ma_printOf 19 = .ok (.ireturn, 1) := by decide +kernel
theorem d_Cw_begun_0 : decode b_Cw_begun 0 = .ok (.aload_n 0, 1) := by decide +kernel
theorem d_Cw_begun_1 : decode b_Cw_begun 1 = .ok (.getfield 45, 3) := by decide +kernel
theorem d_Cw_begun_4 : decode b_Cw_begun 4 = .ok (.ifCond .eq 25, 3) := by decide +kernel
theorem d_Cw_begun_7 : decode b_Cw_begun 7 = .ok (.aload_n 0, 1) := by decide +kernel
theorem d_Cw_begun_8 : decode b_Cw_begun 8 = .ok (.getfield 17, 3) := by decide +kernel
theorem d_Cw_begun_11 : decode b_Cw_begun 11 = .ok (.iload_n 1, 1) := by decide +kernel
theorem d_Cw_begun_12 : decode b_Cw_begun 12 = .ok (.invokevirtual 139, 3) := by decide +kernel
theorem d_Cw_begun_15 : decode b_Cw_begun 15 = .ok (.ifCond .eq 14, 3) := by decide +kernel
theorem d_Cw_begun_18 : decode b_Cw_begun 18 = .ok (.aload_n 0, 1) := by decide +kernel
theorem d_Cw_begun_19 : decode b_Cw_begun 19 = .ok (.getfield 37, 3) := by decide +kernel
theorem d_Cw_begun_22 : decode b_Cw_begun 22 = .ok (.iload_n 1, 1) := by decide +kernel
theorem d_Cw_begun_23 : decode b_Cw_begun 23 = .ok (.invokevirtual 142, 3) := by decide +kernel
theorem d_Cw_begun_26 : decode b_Cw_begun 26 = .ok (.goto 4, 3) := by decide +kernel
theorem d_Cw_begun_29 : decode b_Cw_begun 29 = .ok (.iconst (-1), 1) := by decide +kernel
theorem d_Cw_begun_30 : decode b_Cw_begun 30 = .ok (.ireturn, 1) := by decide +kernel
theorem d_Ma_orderOf_0 : decode b_Ma_orderOf 0 = .ok (.iload_n 1, 1) := by decide +kernel
theorem d_Ma_orderOf_1 : decode b_Ma_orderOf 1 = .ok (.bipush 6, 2) := by decide +kernel
theorem d_Ma_orderOf_3 : decode b_Ma_orderOf 3 = .ok (.invokestatic 83, 3) := by decide +kernel
theorem d_Ma_orderOf_6 : decode b_Ma_orderOf 6 = .ok (.ifCond .eq 12, 3) := by decide +kernel
theorem d_Ma_orderOf_9 : decode b_Ma_orderOf 9 = .ok (.aload_n 0, 1) := by decide +kernel
theorem d_Ma_orderOf_10 : decode b_Ma_orderOf 10 = .ok (.getfield 21, 3) := by decide +kernel
theorem d_Ma_orderOf_13 : decode b_Ma_orderOf 13 = .ok (.iload_n 1, 1) := by decide +kernel
theorem d_Ma_orderOf_14 : decode b_Ma_orderOf 14 = .ok (.iaload, 1) := by decide +kernel
theorem d_Ma_orderOf_15 : decode b_Ma_orderOf 15 = .ok (.goto 4, 3) := by decide +kernel
theorem d_Ma_orderOf_18 : decode b_Ma_orderOf 18 = .ok (.iconst (-1), 1) := by decide +kernel
theorem d_Ma_orderOf_19 : decode b_Ma_orderOf 19 = .ok (.ireturn, 1) := by decide +kernel
theorem d_Cw_objects_0 : decode b_Cw_objects 0 = .ok (.aload_n 0, 1) := by decide +kernel
theorem d_Cw_objects_1 : decode b_Cw_objects 1 = .ok (.getfield 45, 3) := by decide +kernel
theorem d_Cw_objects_4 : decode b_Cw_objects 4 = .ok (.ifCond .eq 13, 3) := by decide +kernel
theorem d_Cw_objects_7 : decode b_Cw_objects 7 = .ok (.aload_n 0, 1) := by decide +kernel
theorem d_Cw_objects_8 : decode b_Cw_objects 8 = .ok (.getfield 37, 3) := by decide +kernel
theorem d_Cw_objects_11 : decode b_Cw_objects 11 = .ok (.invokevirtual 145, 3) := by decide +kernel
theorem d_Cw_objects_14 : decode b_Cw_objects 14 = .ok (.goto 4, 3) := by decide +kernel
theorem d_Cw_objects_17 : decode b_Cw_objects 17 = .ok (.iconst (-1), 1) := by decide +kernel
theorem d_Cw_objects_18 : decode b_Cw_objects 18 = .ok (.ireturn, 1) := by decide +kernel
theorem d_Ma_objectCount_0 : decode b_Ma_objectCount 0 = .ok (.aload_n 0, 1) := by decide +kernel
theorem d_Ma_objectCount_1 : decode b_Ma_objectCount 1 = .ok (.getfield 48, 3) := by decide +kernel
theorem d_Ma_objectCount_4 : decode b_Ma_objectCount 4 = .ok (.ireturn, 1) := by decide +kernel
theorem d_Cw_kept_0 : decode b_Cw_kept 0 = .ok (.aload_n 0, 1) := by decide +kernel
theorem d_Cw_kept_1 : decode b_Cw_kept 1 = .ok (.getfield 45, 3) := by decide +kernel
theorem d_Cw_kept_4 : decode b_Cw_kept 4 = .ok (.ifCond .eq 25, 3) := by decide +kernel
theorem d_Cw_kept_7 : decode b_Cw_kept 7 = .ok (.aload_n 0, 1) := by decide +kernel
theorem d_Cw_kept_8 : decode b_Cw_kept 8 = .ok (.getfield 17, 3) := by decide +kernel
theorem d_Cw_kept_11 : decode b_Cw_kept 11 = .ok (.iload_n 1, 1) := by decide +kernel
theorem d_Cw_kept_12 : decode b_Cw_kept 12 = .ok (.invokevirtual 139, 3) := by decide +kernel
theorem d_Cw_kept_15 : decode b_Cw_kept 15 = .ok (.ifCond .eq 14, 3) := by decide +kernel
theorem d_Cw_kept_18 : decode b_Cw_kept 18 = .ok (.aload_n 0, 1) := by decide +kernel
theorem d_Cw_kept_19 : decode b_Cw_kept 19 = .ok (.getfield 37, 3) := by decide +kernel
theorem d_Cw_kept_22 : decode b_Cw_kept 22 = .ok (.iload_n 1, 1) := by decide +kernel
theorem d_Cw_kept_23 : decode b_Cw_kept 23 = .ok (.invokevirtual 148, 3) := by decide +kernel
theorem d_Cw_kept_26 : decode b_Cw_kept 26 = .ok (.goto 4, 3) := by decide +kernel
theorem d_Cw_kept_29 : decode b_Cw_kept 29 = .ok (.iconst 0, 1) := by decide +kernel
theorem d_Cw_kept_30 : decode b_Cw_kept 30 = .ok (.ireturn, 1) := by decide +kernel
theorem d_Ma_staticOf_0 : decode b_Ma_staticOf 0 = .ok (.iload_n 1, 1) := by decide +kernel
theorem d_Ma_staticOf_1 : decode b_Ma_staticOf 1 = .ok (.bipush 6, 2) := by decide +kernel
theorem d_Ma_staticOf_3 : decode b_Ma_staticOf 3 = .ok (.invokestatic 83, 3) := by decide +kernel
theorem d_Ma_staticOf_6 : decode b_Ma_staticOf 6 = .ok (.ifCond .eq 12, 3) := by decide +kernel
theorem d_Ma_staticOf_9 : decode b_Ma_staticOf 9 = .ok (.aload_n 0, 1) := by decide +kernel
theorem d_Ma_staticOf_10 : decode b_Ma_staticOf 10 = .ok (.getfield 17, 3) := by decide +kernel
theorem d_Ma_staticOf_13 : decode b_Ma_staticOf 13 = .ok (.iload_n 1, 1) := by decide +kernel
theorem d_Ma_staticOf_14 : decode b_Ma_staticOf 14 = .ok (.iaload, 1) := by decide +kernel
theorem d_Ma_staticOf_15 : decode b_Ma_staticOf 15 = .ok (.goto 4, 3) := by decide +kernel
theorem d_Ma_staticOf_18 : decode b_Ma_staticOf 18 = .ok (.iconst 0, 1) := by decide +kernel
theorem d_Ma_staticOf_19 : decode b_Ma_staticOf 19 = .ok (.ireturn, 1) := by decide +kernel
