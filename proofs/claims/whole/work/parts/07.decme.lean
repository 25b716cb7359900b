theorem d_Mo_begin_16 : decode b_Mo_begin 16 = .ok (.iconst 1, 1) := by decide +kernel
theorem d_Mo_begin_17 : decode b_Mo_begin 17 = .ok (.putfield 211, 3) := by decide +kernel
theorem d_Mo_begin_20 : decode b_Mo_begin 20 = .ok (.aload_n 0, 1) := by decide +kernel
theorem d_Mo_begin_21 : decode b_Mo_begin 21 = .ok (.iconst 0, 1) := by decide +kernel
theorem d_Mo_begin_22 : decode b_Mo_begin 22 = .ok (.iconst 0, 1) := by decide +kernel
theorem d_Mo_begin_23 : decode b_Mo_begin 23 = .ok (.invokevirtual 247, 3) := by decide +kernel
theorem d_Mo_begin_26 : decode b_Mo_begin 26 = .ok (.aload_n 0, 1) := by decide +kernel
theorem d_Mo_begin_27 : decode b_Mo_begin 27 = .ok (.getfield 86, 3) := by decide +kernel
theorem d_Mo_begin_30 : decode b_Mo_begin 30 = .ok (.iconst 0, 1) := by decide +kernel
theorem d_Mo_begin_31 : decode b_Mo_begin 31 = .ok (.iload_n 1, 1) := by decide +kernel
theorem d_Mo_begin_32 : decode b_Mo_begin 32 = .ok (.iastore, 1) := by decide +kernel
theorem d_Mo_begin_33 : decode b_Mo_begin 33 = .ok (.return_, 1) := by decide +kernel
theorem d_Mo_result_0 : decode b_Mo_result 0 = .ok (.aload_n 0, 1) := by decide +kernel
theorem d_Mo_result_1 : decode b_Mo_result 1 = .ok (.getfield 111, 3) := by decide +kernel
theorem d_Mo_result_4 : decode b_Mo_result 4 = .ok (.ifCond .eq 10, 3) := by decide +kernel
theorem d_Mo_result_7 : decode b_Mo_result 7 = .ok (.aload_n 0, 1) := by decide +kernel
theorem d_Mo_result_8 : decode b_Mo_result 8 = .ok (.getfield 217, 3) := by decide +kernel
theorem d_Mo_result_11 : decode b_Mo_result 11 = .ok (.goto 4, 3) := by decide +kernel
theorem d_Mo_result_14 : decode b_Mo_result 14 = .ok (.iconst 0, 1) := by decide +kernel
theorem d_Mo_result_15 : decode b_Mo_result 15 = .ok (.ireturn, 1) := by decide +kernel
theorem d_Mo_steps_0 : decode b_Mo_steps 0 = .ok (.aload_n 0, 1) := by decide +kernel
theorem d_Mo_steps_1 : decode b_Mo_steps 1 = .ok (.getfield 111, 3) := by decide +kernel
theorem d_Mo_steps_4 : decode b_Mo_steps 4 = .ok (.ifCond .eq 10, 3) := by decide +kernel
theorem d_Mo_steps_7 : decode b_Mo_steps 7 = .ok (.aload_n 0, 1) := by decide +kernel
theorem d_Mo_steps_8 : decode b_Mo_steps 8 = .ok (.getfield 220, 3) := by decide +kernel
theorem d_Mo_steps_11 : decode b_Mo_steps 11 = .ok (.goto 4, 3) := by decide +kernel
theorem d_Mo_steps_14 : decode b_Mo_steps 14 = .ok (.iconst (-1), 1) := by decide +kernel
theorem d_Mo_steps_15 : decode b_Mo_steps 15 = .ok (.ireturn, 1) := by decide +kernel
theorem d_Mo_prints_0 : decode b_Mo_prints 0 = .ok (.aload_n 0, 1) := by decide +kernel
theorem d_Mo_prints_1 : decode b_Mo_prints 1 = .ok (.getfield 111, 3) := by decide +kernel
theorem d_Mo_prints_4 : decode b_Mo_prints 4 = .ok (.ifCond .eq 10, 3) := by decide +kernel
theorem d_Mo_prints_7 : decode b_Mo_prints 7 = .ok (.aload_n 0, 1) := by decide +kernel
theorem d_Mo_prints_8 : decode b_Mo_prints 8 = .ok (.getfield 235, 3) := by decide +kernel
theorem d_Mo_prints_11 : decode b_Mo_prints 11 = .ok (.goto 4, 3) := by decide +kernel
theorem d_Mo_prints_14 : decode b_Mo_prints 14 = .ok (.iconst (-1), 1) := by decide +kernel
theorem d_Mo_prints_15 : decode b_Mo_prints 15 = .ok (.ireturn, 1) := by decide +kernel
theorem d_Mo_printed_0 : decode b_Mo_printed 0 = .ok (.aload_n 0, 1) := by decide +kernel
theorem d_Mo_printed_1 : decode b_Mo_printed 1 = .ok (.getfield 111, 3) := by decide +kernel
theorem d_Mo_printed_4 : decode b_Mo_printed 4 = .ok (.ifCond .eq 29, 3) := by decide +kernel
theorem d_Mo_printed_7 : decode b_Mo_printed 7 = .ok (.iload_n 1, 1) := by decide +kernel
theorem d_Mo_printed_8 : decode b_Mo_printed 8 = .ok (.bipush 15, 2) := by decide +kernel
theorem d_Mo_printed_10 : decode b_Mo_printed 10 = .ok (.invokestatic 118, 3) := by decide +kernel
theorem d_Mo_printed_13 : decode b_Mo_printed 13 = .ok (.ifCond .eq 20, 3) := by decide +kernel
theorem d_Mo_printed_16 : decode b_Mo_printed 16 = .ok (.iload_n 1, 1) := by decide +kernel
theorem d_Mo_printed_17 : decode b_Mo_printed 17 = .ok (.aload_n 0, 1) := by decide +kernel
theorem d_Mo_printed_18 : decode b_Mo_printed 18 = .ok (.getfield 235, 3) := by decide +kernel
theorem d_Mo_printed_21 : decode b_Mo_printed 21 = .ok (.if_icmp .ge 12, 3) := by decide +kernel
theorem d_Mo_printed_24 : decode b_Mo_printed 24 = .ok (.aload_n 0, 1) := by decide +kernel
theorem d_Mo_printed_25 : decode b_Mo_printed 25 = .ok (.getfield 104, 3) := by decide +kernel
theorem d_Mo_printed_28 : decode b_Mo_printed 28 = .ok (.iload_n 1, 1) := by decide +kernel
theorem d_Mo_printed_29 : decode b_Mo_printed 29 = .ok (.iaload, 1) := by decide +kernel
theorem d_Mo_printed_30 : decode b_Mo_printed 30 = .ok (.goto 4, 3) := by decide +kernel
theorem d_Mo_printed_33 : decode b_Mo_printed 33 = .ok (.iconst 0, 1) := by decide +kernel
theorem d_Mo_printed_34 : decode b_Mo_printed 34 = .ok (.ireturn, 1) := by decide +kernel
theorem d_Mo_begun_0 : decode b_Mo_begun 0 = .ok (.aload_n 0, 1) := by decide +kernel
theorem d_Mo_begun_1 : decode b_Mo_begun 1 = .ok (.getfield 111, 3) := by decide +kernel
theorem d_Mo_begun_4 : decode b_Mo_begun 4 = .ok (.ifCond .eq 25, 3) := by decide +kernel
theorem d_Mo_begun_7 : decode b_Mo_begun 7 = .ok (.iload_n 1, 1) := by decide +kernel
theorem d_Mo_begun_8 : decode b_Mo_begun 8 = .ok (.aload_n 0, 1) := by decide +kernel
theorem d_Mo_begun_9 : decode b_Mo_begun 9 = .ok (.getfield 114, 3) := by decide +kernel
theorem d_Mo_begun_12 : decode b_Mo_begun 12 = .ok (.iconst 1, 1) := by decide +kernel
theorem d_Mo_begun_13 : decode b_Mo_begun 13 = .ok (.isub, 1) := by decide +kernel
theorem d_Mo_begun_14 : decode b_Mo_begun 14 = .ok (.invokestatic 118, 3) := by decide +kernel
theorem d_Mo_begun_17 : decode b_Mo_begun 17 = .ok (.ifCond .eq 12, 3) := by decide +kernel
theorem d_Mo_begun_20 : decode b_Mo_begun 20 = .ok (.aload_n 0, 1) := by decide +kernel
theorem d_Mo_begun_21 : decode b_Mo_begun 21 = .ok (.getfield 101, 3) := by decide +kernel
theorem d_Mo_begun_24 : decode b_Mo_begun 24 = .ok (.iload_n 1, 1) := by decide +kernel
theorem d_Mo_begun_25 : decode b_Mo_begun 25 = .ok (.iaload, 1) := by decide +kernel
theorem d_Mo_begun_26 : decode b_Mo_begun 26 = .ok (.goto 4, 3) := by decide +kernel
theorem d_Mo_begun_29 : decode b_Mo_begun 29 = .ok (.iconst (-1), 1) := by decide +kernel
theorem d_Mo_begun_30 : decode b_Mo_begun 30 = .ok (.ireturn, 1) := by decide +kernel
theorem d_Mo_objects_0 : decode b_Mo_objects 0 = .ok (.aload_n 0, 1) := by decide +kernel
theorem d_Mo_objects_1 : decode b_Mo_objects 1 = .ok (.getfield 111, 3) := by decide +kernel
theorem d_Mo_objects_4 : decode b_Mo_objects 4 = .ok (.ifCond .eq 10, 3) := by decide +kernel
theorem d_Mo_objects_7 : decode b_Mo_objects 7 = .ok (.aload_n 0, 1) := by decide +kernel
theorem d_Mo_objects_8 : decode b_Mo_objects 8 = .ok (.getfield 229, 3) := by decide +kernel
theorem d_Mo_objects_11 : decode b_Mo_objects 11 = .ok (.goto 4, 3) := by decide +kernel
theorem d_Mo_objects_14 : decode b_Mo_objects 14 = .ok (.iconst (-1), 1) := by decide +kernel
theorem d_Mo_objects_15 : decode b_Mo_objects 15 = .ok (.ireturn, 1) := by decide +kernel
theorem d_Mo_kept_0 : decode b_Mo_kept 0 = .ok (.aload_n 0, 1) := by decide +kernel
theorem d_Mo_kept_1 : decode b_Mo_kept 1 = .ok (.getfield 111, 3) := by decide +kernel
theorem d_Mo_kept_4 : decode b_Mo_kept 4 = .ok (.ifCond .eq 25, 3) := by decide +kernel
theorem d_Mo_kept_7 : decode b_Mo_kept 7 = .ok (.iload_n 1, 1) := by decide +kernel
theorem d_Mo_kept_8 : decode b_Mo_kept 8 = .ok (.aload_n 0, 1) := by decide +kernel
theorem d_Mo_kept_9 : decode b_Mo_kept 9 = .ok (.getfield 114, 3) := by decide +kernel
theorem d_Mo_kept_12 : decode b_Mo_kept 12 = .ok (.iconst 1, 1) := by decide +kernel
theorem d_Mo_kept_13 : decode b_Mo_kept 13 = .ok (.isub, 1) := by decide +kernel
theorem d_Mo_kept_14 : decode b_Mo_kept 14 = .ok (.invokestatic 118, 3) := by decide +kernel
theorem d_Mo_kept_17 : decode b_Mo_kept 17 = .ok (.ifCond .eq 12, 3) := by decide +kernel
theorem d_Mo_kept_20 : decode b_Mo_kept 20 = .ok (.aload_n 0, 1) := by decide +kernel
theorem d_Mo_kept_21 : decode b_Mo_kept 21 = .ok (.getfield 98, 3) := by decide +kernel
theorem d_Mo_kept_24 : decode b_Mo_kept 24 = .ok (.iload_n 1, 1) := by decide +kernel
theorem d_Mo_kept_25 : decode b_Mo_kept 25 = .ok (.iaload, 1) := by decide +kernel
theorem d_Mo_kept_26 : decode b_Mo_kept 26 = .ok (.goto 4, 3) := by decide +kernel
theorem d_Mo_kept_29 : decode b_Mo_kept 29 = .ok (.iconst 0, 1) := by decide +kernel
theorem d_Mo_kept_30 : decode b_Mo_kept 30 = .ok (.ireturn, 1) := by decide +kernel
