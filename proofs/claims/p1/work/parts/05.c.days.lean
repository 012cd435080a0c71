theorem dX7_think_0 : decode cX7_think 0 = .ok (.aload_n 0, 1) := by decide +kernel
theorem dX7_think_1 : decode cX7_think 1 = .ok (.getfield 31, 3) := by decide +kernel
theorem dX7_think_4 : decode cX7_think 4 = .ok (.aload_n 0, 1) := by decide +kernel
theorem dX7_think_5 : decode cX7_think 5 = .ok (.getfield 12, 3) := by decide +kernel
theorem dX7_think_8 : decode cX7_think 8 = .ok (.getfield 72, 3) := by decide +kernel
theorem dX7_think_11 : decode cX7_think 11 = .ok (.invokevirtual 315, 3) := by decide +kernel
theorem dX7_think_14 : decode cX7_think 14 = .ok (.return_, 1) := by decide +kernel
theorem dX7_thinkDays_0 : decode cX7_thinkDays 0 = .ok (.iconst 0, 1) := by decide +kernel
theorem dX7_thinkDays_1 : decode cX7_thinkDays 1 = .ok (.istore_n 2, 1) := by decide +kernel
theorem dX7_thinkDays_2 : decode cX7_thinkDays 2 = .ok (.iload_n 2, 1) := by decide +kernel
theorem dX7_thinkDays_3 : decode cX7_thinkDays 3 = .ok (.iload_n 1, 1) := by decide +kernel
theorem dX7_thinkDays_4 : decode cX7_thinkDays 4 = .ok (.if_icmp .ge 17, 3) := by decide +kernel
theorem dX7_thinkDays_21 : decode cX7_thinkDays 21 = .ok (.return_, 1) := by decide +kernel
theorem dX7_thinkDays_7 : decode cX7_thinkDays 7 = .ok (.aload_n 0, 1) := by decide +kernel
theorem dX7_thinkDays_8 : decode cX7_thinkDays 8 = .ok (.getfield 31, 3) := by decide +kernel
theorem dX7_thinkDays_11 : decode cX7_thinkDays 11 = .ok (.iconst 0, 1) := by decide +kernel
theorem dX7_thinkDays_12 : decode cX7_thinkDays 12 = .ok (.invokevirtual 178, 3) := by decide +kernel
theorem dX7_thinkDays_15 : decode cX7_thinkDays 15 = .ok (.iinc 2 1, 3) := by decide +kernel
theorem dX7_thinkDays_18 : decode cX7_thinkDays 18 = .ok (.goto (-16), 3) := by decide +kernel
theorem dX7_thinkDaysWithHarm_0 : decode cX7_thinkDaysWithHarm 0 = .ok (.iconst 0, 1) := by decide +kernel
theorem dX7_thinkDaysWithHarm_1 : decode cX7_thinkDaysWithHarm 1 = .ok (.istore_n 2, 1) := by decide +kernel
theorem dX7_thinkDaysWithHarm_2 : decode cX7_thinkDaysWithHarm 2 = .ok (.iload_n 2, 1) := by decide +kernel
theorem dX7_thinkDaysWithHarm_3 : decode cX7_thinkDaysWithHarm 3 = .ok (.iload_n 1, 1) := by decide +kernel
theorem dX7_thinkDaysWithHarm_4 : decode cX7_thinkDaysWithHarm 4 = .ok (.if_icmp .ge 17, 3) := by decide +kernel
theorem dX7_thinkDaysWithHarm_21 : decode cX7_thinkDaysWithHarm 21 = .ok (.return_, 1) := by decide +kernel
theorem dX7_thinkDaysWithHarm_7 : decode cX7_thinkDaysWithHarm 7 = .ok (.aload_n 0, 1) := by decide +kernel
theorem dX7_thinkDaysWithHarm_8 : decode cX7_thinkDaysWithHarm 8 = .ok (.getfield 31, 3) := by decide +kernel
theorem dX7_thinkDaysWithHarm_11 : decode cX7_thinkDaysWithHarm 11 = .ok (.iconst 1, 1) := by decide +kernel
theorem dX7_thinkDaysWithHarm_12 : decode cX7_thinkDaysWithHarm 12 = .ok (.invokevirtual 178, 3) := by decide +kernel
theorem dX7_thinkDaysWithHarm_15 : decode cX7_thinkDaysWithHarm 15 = .ok (.iinc 2 1, 3) := by decide +kernel
theorem dX7_thinkDaysWithHarm_18 : decode cX7_thinkDaysWithHarm 18 = .ok (.goto (-16), 3) := by decide +kernel
theorem dX7_days_0 : decode cX7_days 0 = .ok (.iload_n 1, 1) := by decide +kernel
theorem dX7_days_1 : decode cX7_days 1 = .ok (.iconst 1, 1) := by decide +kernel
theorem dX7_days_2 : decode cX7_days 2 = .ok (.bipush 60, 2) := by decide +kernel
theorem dX7_days_4 : decode cX7_days 4 = .ok (.invokestatic 60, 3) := by decide +kernel
theorem dX7_days_7 : decode cX7_days 7 = .ok (.ifCond .ne 10, 3) := by decide +kernel
theorem dX7_days_17 : decode cX7_days 17 = .ok (.aload_n 0, 1) := by decide +kernel
theorem dX7_days_18 : decode cX7_days 18 = .ok (.getfield 12, 3) := by decide +kernel
theorem dX7_days_21 : decode cX7_days 21 = .ok (.getfield 72, 3) := by decide +kernel
theorem dX7_days_24 : decode cX7_days 24 = .ok (.getfield 174, 3) := by decide +kernel
theorem dX7_days_27 : decode cX7_days 27 = .ok (.iload_n 1, 1) := by decide +kernel
theorem dX7_days_28 : decode cX7_days 28 = .ok (.iadd, 1) := by decide +kernel
theorem dX7_days_29 : decode cX7_days 29 = .ok (.sipush 9999, 3) := by decide +kernel
theorem dX7_days_32 : decode cX7_days 32 = .ok (.if_icmp .le 10, 3) := by decide +kernel
theorem dX7_days_42 : decode cX7_days 42 = .ok (.iconst 0, 1) := by decide +kernel
theorem dX7_days_43 : decode cX7_days 43 = .ok (.istore_n 2, 1) := by decide +kernel
theorem dX7_days_44 : decode cX7_days 44 = .ok (.iload_n 2, 1) := by decide +kernel
theorem dX7_days_45 : decode cX7_days 45 = .ok (.iload_n 1, 1) := by decide +kernel
theorem dX7_days_46 : decode cX7_days 46 = .ok (.if_icmp .ge 20, 3) := by decide +kernel
theorem dX7_days_66 : decode cX7_days 66 = .ok (.aload_n 0, 1) := by decide +kernel
theorem dX7_days_67 : decode cX7_days 67 = .ok (.getfield 12, 3) := by decide +kernel
theorem dX7_days_70 : decode cX7_days 70 = .ok (.getfield 72, 3) := by decide +kernel
theorem dX7_days_73 : decode cX7_days 73 = .ok (.invokevirtual 182, 3) := by decide +kernel
theorem dX7_days_76 : decode cX7_days 76 = .ok (.ireturn, 1) := by decide +kernel
theorem dX7_days_49 : decode cX7_days 49 = .ok (.aload_n 0, 1) := by decide +kernel
theorem dX7_days_50 : decode cX7_days 50 = .ok (.getfield 12, 3) := by decide +kernel
theorem dX7_days_53 : decode cX7_days 53 = .ok (.getfield 72, 3) := by decide +kernel
theorem dX7_days_56 : decode cX7_days 56 = .ok (.iconst 1, 1) := by decide +kernel
theorem dX7_days_57 : decode cX7_days 57 = .ok (.invokevirtual 178, 3) := by decide +kernel
theorem dX7_days_60 : decode cX7_days 60 = .ok (.iinc 2 1, 3) := by decide +kernel
theorem dX7_days_63 : decode cX7_days 63 = .ok (.goto (-19), 3) := by decide +kernel
theorem dX7_days_10 : decode cX7_days 10 = .ok (.aload_n 0, 1) := by decide +kernel
theorem dX7_days_11 : decode cX7_days 11 = .ok (.ldc 68, 2) := by decide +kernel
theorem dX7_days_13 : decode cX7_days 13 = .ok (.invokevirtual 69, 3) := by decide +kernel
theorem dX7_days_16 : decode cX7_days 16 = .ok (.ireturn, 1) := by decide +kernel
theorem dX6_draw_0 : decode cX6_draw 0 = .ok (.aload_n 0, 1) := by decide +kernel
theorem dX6_draw_1 : decode cX6_draw 1 = .ok (.aload_n 0, 1) := by decide +kernel
theorem dX6_draw_2 : decode cX6_draw 2 = .ok (.getfield 37, 3) := by decide +kernel
theorem dX6_draw_5 : decode cX6_draw 5 = .ok (.ldc 45, 2) := by decide +kernel
theorem dX6_draw_7 : decode cX6_draw 7 = .ok (.imul, 1) := by decide +kernel
theorem dX6_draw_8 : decode cX6_draw 8 = .ok (.sipush 12345, 3) := by decide +kernel
theorem dX6_draw_11 : decode cX6_draw 11 = .ok (.iadd, 1) := by decide +kernel
theorem dX6_draw_12 : decode cX6_draw 12 = .ok (.putfield 37, 3) := by decide +kernel
theorem dX6_draw_15 : decode cX6_draw 15 = .ok (.aload_n 0, 1) := by decide +kernel
theorem dX6_draw_16 : decode cX6_draw 16 = .ok (.getfield 37, 3) := by decide +kernel
theorem dX6_draw_19 : decode cX6_draw 19 = .ok (.bipush 8, 2) := by decide +kernel
theorem dX6_draw_21 : decode cX6_draw 21 = .ok (.iushr, 1) := by decide +kernel
theorem dX6_draw_22 : decode cX6_draw 22 = .ok (.ireturn, 1) := by decide +kernel
theorem dX7_loose_0 : decode cX7_loose 0 = .ok (.iload_n 1, 1) := by decide +kernel
theorem dX7_loose_1 : decode cX7_loose 1 = .ok (.iconst 1, 1) := by decide +kernel
theorem dX7_loose_2 : decode cX7_loose 2 = .ok (.bipush 40, 2) := by decide +kernel
theorem dX7_loose_4 : decode cX7_loose 4 = .ok (.invokestatic 60, 3) := by decide +kernel
theorem dX7_loose_7 : decode cX7_loose 7 = .ok (.ifCond .ne 10, 3) := by decide +kernel
theorem dX7_loose_17 : decode cX7_loose 17 = .ok (.aload_n 0, 1) := by decide +kernel
theorem dX7_loose_18 : decode cX7_loose 18 = .ok (.getfield 12, 3) := by decide +kernel
theorem dX7_loose_21 : decode cX7_loose 21 = .ok (.getfield 72, 3) := by decide +kernel
theorem dX7_loose_24 : decode cX7_loose 24 = .ok (.getfield 174, 3) := by decide +kernel
theorem dX7_loose_27 : decode cX7_loose 27 = .ok (.iload_n 1, 1) := by decide +kernel
theorem dX7_loose_28 : decode cX7_loose 28 = .ok (.iadd, 1) := by decide +kernel
theorem dX7_loose_29 : decode cX7_loose 29 = .ok (.sipush 9999, 3) := by decide +kernel
theorem dX7_loose_32 : decode cX7_loose 32 = .ok (.if_icmp .le 10, 3) := by decide +kernel
theorem dX7_loose_42 : decode cX7_loose 42 = .ok (.iconst 0, 1) := by decide +kernel
theorem dX7_loose_43 : decode cX7_loose 43 = .ok (.istore_n 2, 1) := by decide +kernel
theorem dX7_loose_44 : decode cX7_loose 44 = .ok (.iload_n 2, 1) := by decide +kernel
theorem dX7_loose_45 : decode cX7_loose 45 = .ok (.iload_n 1, 1) := by decide +kernel
theorem dX7_loose_46 : decode cX7_loose 46 = .ok (.if_icmp .ge 40, 3) := by decide +kernel
theorem dX7_loose_86 : decode cX7_loose 86 = .ok (.aload_n 0, 1) := by decide +kernel
theorem dX7_loose_87 : decode cX7_loose 87 = .ok (.getfield 12, 3) := by decide +kernel
theorem dX7_loose_90 : decode cX7_loose 90 = .ok (.getfield 72, 3) := by decide +kernel
theorem dX7_loose_93 : decode cX7_loose 93 = .ok (.invokevirtual 182, 3) := by decide +kernel
theorem dX7_loose_96 : decode cX7_loose 96 = .ok (.ireturn, 1) := by decide +kernel
theorem dX7_loose_49 : decode cX7_loose 49 = .ok (.aload_n 0, 1) := by decide +kernel
theorem dX7_loose_50 : decode cX7_loose 50 = .ok (.getfield 12, 3) := by decide +kernel
theorem dX7_loose_53 : decode cX7_loose 53 = .ok (.getfield 72, 3) := by decide +kernel
theorem dX7_loose_56 : decode cX7_loose 56 = .ok (.aload_n 0, 1) := by decide +kernel
theorem dX7_loose_57 : decode cX7_loose 57 = .ok (.getfield 12, 3) := by decide +kernel
theorem dX7_loose_60 : decode cX7_loose 60 = .ok (.invokevirtual 185, 3) := by decide +kernel
theorem dX7_loose_63 : decode cX7_loose 63 = .ok (.bipush 10, 2) := by decide +kernel
theorem dX7_loose_65 : decode cX7_loose 65 = .ok (.irem, 1) := by decide +kernel
theorem dX7_loose_66 : decode cX7_loose 66 = .ok (.putfield 188, 3) := by decide +kernel
theorem dX7_loose_69 : decode cX7_loose 69 = .ok (.aload_n 0, 1) := by decide +kernel
theorem dX7_loose_70 : decode cX7_loose 70 = .ok (.getfield 12, 3) := by decide +kernel
theorem dX7_loose_73 : decode cX7_loose 73 = .ok (.getfield 72, 3) := by decide +kernel
theorem dX7_loose_76 : decode cX7_loose 76 = .ok (.iconst 1, 1) := by decide +kernel
theorem dX7_loose_77 : decode cX7_loose 77 = .ok (.invokevirtual 178, 3) := by decide +kernel
theorem dX7_loose_80 : decode cX7_loose 80 = .ok (.iinc 2 1, 3) := by decide +kernel
theorem dX7_loose_83 : decode cX7_loose 83 = .ok (.goto (-39), 3) := by decide +kernel
theorem dX7_loose_10 : decode cX7_loose 10 = .ok (.aload_n 0, 1) := by decide +kernel
theorem dX7_loose_11 : decode cX7_loose 11 = .ok (.ldc 68, 2) := by decide +kernel
theorem dX7_loose_13 : decode cX7_loose 13 = .ok (.invokevirtual 69, 3) := by decide +kernel
theorem dX7_loose_16 : decode cX7_loose 16 = .ok (.ireturn, 1) := by decide +kernel
theorem dX7_ended_0 : decode cX7_ended 0 = .ok (.iload_n 1, 1) := by decide +kernel
theorem dX7_ended_1 : decode cX7_ended 1 = .ok (.iconst 0, 1) := by decide +kernel
theorem dX7_ended_2 : decode cX7_ended 2 = .ok (.bipush 60, 2) := by decide +kernel
theorem dX7_ended_4 : decode cX7_ended 4 = .ok (.invokestatic 60, 3) := by decide +kernel
theorem dX7_ended_7 : decode cX7_ended 7 = .ok (.ifCond .ne 10, 3) := by decide +kernel
theorem dX7_ended_17 : decode cX7_ended 17 = .ok (.aload_n 0, 1) := by decide +kernel
theorem dX7_ended_18 : decode cX7_ended 18 = .ok (.invokevirtual 191, 3) := by decide +kernel
theorem dX7_ended_21 : decode cX7_ended 21 = .ok (.aload_n 0, 1) := by decide +kernel
theorem dX7_ended_22 : decode cX7_ended 22 = .ok (.iload_n 1, 1) := by decide +kernel
theorem dX7_ended_23 : decode cX7_ended 23 = .ok (.invokevirtual 194, 3) := by decide +kernel
theorem dX7_ended_26 : decode cX7_ended 26 = .ok (.aload_n 0, 1) := by decide +kernel
theorem dX7_ended_27 : decode cX7_ended 27 = .ok (.getfield 31, 3) := by decide +kernel
theorem dX7_ended_30 : decode cX7_ended 30 = .ok (.invokevirtual 198, 3) := by decide +kernel
theorem dX7_ended_33 : decode cX7_ended 33 = .ok (.ireturn, 1) := by decide +kernel
theorem dX7_ended_10 : decode cX7_ended 10 = .ok (.aload_n 0, 1) := by decide +kernel
theorem dX7_ended_11 : decode cX7_ended 11 = .ok (.ldc 68, 2) := by decide +kernel
theorem dX7_ended_13 : decode cX7_ended 13 = .ok (.invokevirtual 69, 3) := by decide +kernel
theorem dX7_ended_16 : decode cX7_ended 16 = .ok (.ireturn, 1) := by decide +kernel
theorem dX7_fee_0 : decode cX7_fee 0 = .ok (.iload_n 1, 1) := by decide +kernel
theorem dX7_fee_1 : decode cX7_fee 1 = .ok (.iconst 0, 1) := by decide +kernel
theorem dX7_fee_2 : decode cX7_fee 2 = .ok (.bipush 60, 2) := by decide +kernel
theorem dX7_fee_4 : decode cX7_fee 4 = .ok (.invokestatic 60, 3) := by decide +kernel
theorem dX7_fee_7 : decode cX7_fee 7 = .ok (.ifCond .ne 10, 3) := by decide +kernel
theorem dX7_fee_17 : decode cX7_fee 17 = .ok (.aload_n 0, 1) := by decide +kernel
theorem dX7_fee_18 : decode cX7_fee 18 = .ok (.invokevirtual 191, 3) := by decide +kernel
theorem dX7_fee_21 : decode cX7_fee 21 = .ok (.aload_n 0, 1) := by decide +kernel
theorem dX7_fee_22 : decode cX7_fee 22 = .ok (.iload_n 1, 1) := by decide +kernel
theorem dX7_fee_23 : decode cX7_fee 23 = .ok (.invokevirtual 194, 3) := by decide +kernel
theorem dX7_fee_26 : decode cX7_fee 26 = .ok (.aload_n 0, 1) := by decide +kernel
theorem dX7_fee_27 : decode cX7_fee 27 = .ok (.getfield 31, 3) := by decide +kernel
theorem dX7_fee_30 : decode cX7_fee 30 = .ok (.getfield 246, 3) := by decide +kernel
theorem dX7_fee_33 : decode cX7_fee 33 = .ok (.aload_n 0, 1) := by decide +kernel
theorem dX7_fee_34 : decode cX7_fee 34 = .ok (.getfield 12, 3) := by decide +kernel
theorem dX7_fee_37 : decode cX7_fee 37 = .ok (.getfield 72, 3) := by decide +kernel
theorem dX7_fee_40 : decode cX7_fee 40 = .ok (.getfield 246, 3) := by decide +kernel
theorem dX7_fee_43 : decode cX7_fee 43 = .ok (.isub, 1) := by decide +kernel
theorem dX7_fee_44 : decode cX7_fee 44 = .ok (.ireturn, 1) := by decide +kernel
theorem dX7_fee_10 : decode cX7_fee 10 = .ok (.aload_n 0, 1) := by decide +kernel
theorem dX7_fee_11 : decode cX7_fee 11 = .ok (.ldc 68, 2) := by decide +kernel
theorem dX7_fee_13 : decode cX7_fee 13 = .ok (.invokevirtual 69, 3) := by decide +kernel
theorem dX7_fee_16 : decode cX7_fee 16 = .ok (.ireturn, 1) := by decide +kernel
theorem dX7_free_0 : decode cX7_free 0 = .ok (.aload_n 0, 1) := by decide +kernel
theorem dX7_free_1 : decode cX7_free 1 = .ok (.getfield 12, 3) := by decide +kernel
theorem dX7_free_4 : decode cX7_free 4 = .ok (.getfield 72, 3) := by decide +kernel
theorem dX7_free_7 : decode cX7_free 7 = .ok (.invokevirtual 249, 3) := by decide +kernel
theorem dX7_free_10 : decode cX7_free 10 = .ok (.ireturn, 1) := by decide +kernel
theorem dX7_off_0 : decode cX7_off 0 = .ok (.iload_n 1, 1) := by decide +kernel
theorem dX7_off_1 : decode cX7_off 1 = .ok (.iconst 0, 1) := by decide +kernel
theorem dX7_off_2 : decode cX7_off 2 = .ok (.bipush 60, 2) := by decide +kernel
theorem dX7_off_4 : decode cX7_off 4 = .ok (.invokestatic 60, 3) := by decide +kernel
theorem dX7_off_7 : decode cX7_off 7 = .ok (.ifCond .ne 10, 3) := by decide +kernel
theorem dX7_off_17 : decode cX7_off 17 = .ok (.aload_n 0, 1) := by decide +kernel
theorem dX7_off_18 : decode cX7_off 18 = .ok (.invokevirtual 191, 3) := by decide +kernel
theorem dX7_off_21 : decode cX7_off 21 = .ok (.aload_n 0, 1) := by decide +kernel
theorem dX7_off_22 : decode cX7_off 22 = .ok (.iload_n 1, 1) := by decide +kernel
theorem dX7_off_23 : decode cX7_off 23 = .ok (.invokevirtual 219, 3) := by decide +kernel
theorem dX7_off_26 : decode cX7_off 26 = .ok (.aload_n 0, 1) := by decide +kernel
theorem dX7_off_27 : decode cX7_off 27 = .ok (.getfield 31, 3) := by decide +kernel
theorem dX7_off_30 : decode cX7_off 30 = .ok (.getfield 222, 3) := by decide +kernel
theorem dX7_off_33 : decode cX7_off 33 = .ok (.istore_n 2, 1) := by decide +kernel
theorem dX7_off_34 : decode cX7_off 34 = .ok (.aload_n 0, 1) := by decide +kernel
theorem dX7_off_35 : decode cX7_off 35 = .ok (.invokevirtual 191, 3) := by decide +kernel
theorem dX7_off_38 : decode cX7_off 38 = .ok (.iload_n 1, 1) := by decide +kernel
theorem dX7_off_39 : decode cX7_off 39 = .ok (.ifCond .le 18, 3) := by decide +kernel
theorem dX7_off_57 : decode cX7_off 57 = .ok (.aload_n 0, 1) := by decide +kernel
theorem dX7_off_58 : decode cX7_off 58 = .ok (.getfield 31, 3) := by decide +kernel
theorem dX7_off_61 : decode cX7_off 61 = .ok (.getfield 222, 3) := by decide +kernel
theorem dX7_off_64 : decode cX7_off 64 = .ok (.iload_n 2, 1) := by decide +kernel
theorem dX7_off_65 : decode cX7_off 65 = .ok (.isub, 1) := by decide +kernel
theorem dX7_off_66 : decode cX7_off 66 = .ok (.ireturn, 1) := by decide +kernel
theorem dX7_off_42 : decode cX7_off 42 = .ok (.aload_n 0, 1) := by decide +kernel
theorem dX7_off_43 : decode cX7_off 43 = .ok (.getfield 31, 3) := by decide +kernel
theorem dX7_off_46 : decode cX7_off 46 = .ok (.iconst 1, 1) := by decide +kernel
theorem dX7_off_47 : decode cX7_off 47 = .ok (.invokevirtual 240, 3) := by decide +kernel
theorem dX7_off_50 : decode cX7_off 50 = .ok (.aload_n 0, 1) := by decide +kernel
theorem dX7_off_51 : decode cX7_off 51 = .ok (.iload_n 1, 1) := by decide +kernel
theorem dX7_off_52 : decode cX7_off 52 = .ok (.iconst 1, 1) := by decide +kernel
theorem dX7_off_53 : decode cX7_off 53 = .ok (.isub, 1) := by decide +kernel
theorem dX7_off_54 : decode cX7_off 54 = .ok (.invokevirtual 219, 3) := by decide +kernel
theorem dX7_off_10 : decode cX7_off 10 = .ok (.aload_n 0, 1) := by decide +kernel
theorem dX7_off_11 : decode cX7_off 11 = .ok (.ldc 68, 2) := by decide +kernel
theorem dX7_off_13 : decode cX7_off 13 = .ok (.invokevirtual 69, 3) := by decide +kernel
theorem dX7_off_16 : decode cX7_off 16 = .ok (.ireturn, 1) := by decide +kernel
theorem dX7_start_0 : decode cX7_start 0 = .ok (.iload_n 1, 1) := by decide +kernel
theorem dX7_start_1 : decode cX7_start 1 = .ok (.iconst 0, 1) := by decide +kernel
theorem dX7_start_2 : decode cX7_start 2 = .ok (.bipush 60, 2) := by decide +kernel
theorem dX7_start_4 : decode cX7_start 4 = .ok (.invokestatic 60, 3) := by decide +kernel
theorem dX7_start_7 : decode cX7_start 7 = .ok (.ifCond .eq 12, 3) := by decide +kernel
theorem dX7_start_10 : decode cX7_start 10 = .ok (.iload_n 2, 1) := by decide +kernel
theorem dX7_start_11 : decode cX7_start 11 = .ok (.iconst 0, 1) := by decide +kernel
theorem dX7_start_12 : decode cX7_start 12 = .ok (.iconst 1, 1) := by decide +kernel
theorem dX7_start_13 : decode cX7_start 13 = .ok (.invokestatic 60, 3) := by decide +kernel
theorem dX7_start_16 : decode cX7_start 16 = .ok (.ifCond .ne 10, 3) := by decide +kernel
theorem dX7_start_26 : decode cX7_start 26 = .ok (.iconst 0, 1) := by decide +kernel
theorem dX7_start_27 : decode cX7_start 27 = .ok (.istore_n 3, 1) := by decide +kernel
theorem dX7_start_28 : decode cX7_start 28 = .ok (.iconst (-1), 1) := by decide +kernel
theorem dX7_start_29 : decode cX7_start 29 = .ok (.istore 4, 2) := by decide +kernel
theorem dX7_start_31 : decode cX7_start 31 = .ok (.iconst 0, 1) := by decide +kernel
theorem dX7_start_32 : decode cX7_start 32 = .ok (.istore 5, 2) := by decide +kernel
theorem dX7_start_34 : decode cX7_start 34 = .ok (.iload 5, 2) := by decide +kernel
theorem dX7_start_36 : decode cX7_start 36 = .ok (.bipush 10, 2) := by decide +kernel
theorem dX7_start_38 : decode cX7_start 38 = .ok (.if_icmp .ge 51, 3) := by decide +kernel
theorem dX7_start_41 : decode cX7_start 41 = .ok (.aload_n 0, 1) := by decide +kernel
theorem dX7_start_42 : decode cX7_start 42 = .ok (.invokevirtual 191, 3) := by decide +kernel
theorem dX7_start_45 : decode cX7_start 45 = .ok (.aload_n 0, 1) := by decide +kernel
theorem dX7_start_46 : decode cX7_start 46 = .ok (.getfield 31, 3) := by decide +kernel
theorem dX7_start_49 : decode cX7_start 49 = .ok (.iload 5, 2) := by decide +kernel
theorem dX7_start_51 : decode cX7_start 51 = .ok (.putfield 201, 3) := by decide +kernel
theorem dX7_start_54 : decode cX7_start 54 = .ok (.aload_n 0, 1) := by decide +kernel
theorem dX7_start_55 : decode cX7_start 55 = .ok (.iload_n 1, 1) := by decide +kernel
theorem dX7_start_56 : decode cX7_start 56 = .ok (.invokevirtual 194, 3) := by decide +kernel
theorem dX7_start_59 : decode cX7_start 59 = .ok (.aload_n 0, 1) := by decide +kernel
theorem dX7_start_60 : decode cX7_start 60 = .ok (.getfield 31, 3) := by decide +kernel
theorem dX7_start_63 : decode cX7_start 63 = .ok (.invokevirtual 182, 3) := by decide +kernel
theorem dX7_start_66 : decode cX7_start 66 = .ok (.iload 4, 2) := by decide +kernel
theorem dX7_start_68 : decode cX7_start 68 = .ok (.if_icmp .le 15, 3) := by decide +kernel
theorem dX7_start_71 : decode cX7_start 71 = .ok (.iload 5, 2) := by decide +kernel
theorem dX7_start_73 : decode cX7_start 73 = .ok (.istore_n 3, 1) := by decide +kernel
theorem dX7_start_74 : decode cX7_start 74 = .ok (.aload_n 0, 1) := by decide +kernel
theorem dX7_start_75 : decode cX7_start 75 = .ok (.getfield 31, 3) := by decide +kernel
theorem dX7_start_78 : decode cX7_start 78 = .ok (.invokevirtual 182, 3) := by decide +kernel
theorem dX7_start_81 : decode cX7_start 81 = .ok (.istore 4, 2) := by decide +kernel
theorem dX7_start_83 : decode cX7_start 83 = .ok (.iinc 5 1, 3) := by decide +kernel
theorem dX7_start_86 : decode cX7_start 86 = .ok (.goto (-52), 3) := by decide +kernel
theorem dX7_start_89 : decode cX7_start 89 = .ok (.iload_n 2, 1) := by decide +kernel
theorem dX7_start_90 : decode cX7_start 90 = .ok (.ifCond .ne 7, 3) := by decide +kernel
theorem dX7_start_97 : decode cX7_start 97 = .ok (.iload 4, 2) := by decide +kernel
theorem dX7_start_99 : decode cX7_start 99 = .ok (.ireturn, 1) := by decide +kernel
theorem dX7_start_93 : decode cX7_start 93 = .ok (.iload_n 3, 1) := by decide +kernel
theorem dX7_start_94 : decode cX7_start 94 = .ok (.goto 5, 3) := by decide +kernel
theorem dX7_start_19 : decode cX7_start 19 = .ok (.aload_n 0, 1) := by decide +kernel
theorem dX7_start_20 : decode cX7_start 20 = .ok (.ldc 68, 2) := by decide +kernel
theorem dX7_start_22 : decode cX7_start 22 = .ok (.invokevirtual 69, 3) := by decide +kernel
theorem dX7_start_25 : decode cX7_start 25 = .ok (.ireturn, 1) := by decide +kernel
theorem dX7_pace_0 : decode cX7_pace 0 = .ok (.iload_n 1, 1) := by decide +kernel
theorem dX7_pace_1 : decode cX7_pace 1 = .ok (.iconst 0, 1) := by decide +kernel
theorem dX7_pace_2 : decode cX7_pace 2 = .ok (.bipush 60, 2) := by decide +kernel
theorem dX7_pace_4 : decode cX7_pace 4 = .ok (.invokestatic 60, 3) := by decide +kernel
theorem dX7_pace_7 : decode cX7_pace 7 = .ok (.ifCond .eq 12, 3) := by decide +kernel
theorem dX7_pace_10 : decode cX7_pace 10 = .ok (.iload_n 2, 1) := by decide +kernel
theorem dX7_pace_11 : decode cX7_pace 11 = .ok (.iconst 0, 1) := by decide +kernel
theorem dX7_pace_12 : decode cX7_pace 12 = .ok (.iconst 1, 1) := by decide +kernel
theorem dX7_pace_13 : decode cX7_pace 13 = .ok (.invokestatic 60, 3) := by decide +kernel
theorem dX7_pace_16 : decode cX7_pace 16 = .ok (.ifCond .ne 10, 3) := by decide +kernel
theorem dX7_pace_26 : decode cX7_pace 26 = .ok (.iconst 0, 1) := by decide +kernel
theorem dX7_pace_27 : decode cX7_pace 27 = .ok (.istore_n 3, 1) := by decide +kernel
theorem dX7_pace_28 : decode cX7_pace 28 = .ok (.iconst (-1), 1) := by decide +kernel
theorem dX7_pace_29 : decode cX7_pace 29 = .ok (.istore 4, 2) := by decide +kernel
theorem dX7_pace_31 : decode cX7_pace 31 = .ok (.iconst 0, 1) := by decide +kernel
theorem dX7_pace_32 : decode cX7_pace 32 = .ok (.istore 5, 2) := by decide +kernel
theorem dX7_pace_34 : decode cX7_pace 34 = .ok (.iload 5, 2) := by decide +kernel
theorem dX7_pace_36 : decode cX7_pace 36 = .ok (.bipush 10, 2) := by decide +kernel
theorem dX7_pace_38 : decode cX7_pace 38 = .ok (.if_icmp .ge 51, 3) := by decide +kernel
theorem dX7_pace_41 : decode cX7_pace 41 = .ok (.aload_n 0, 1) := by decide +kernel
theorem dX7_pace_42 : decode cX7_pace 42 = .ok (.invokevirtual 191, 3) := by decide +kernel
theorem dX7_pace_45 : decode cX7_pace 45 = .ok (.aload_n 0, 1) := by decide +kernel
theorem dX7_pace_46 : decode cX7_pace 46 = .ok (.getfield 31, 3) := by decide +kernel
theorem dX7_pace_49 : decode cX7_pace 49 = .ok (.iload 5, 2) := by decide +kernel
theorem dX7_pace_51 : decode cX7_pace 51 = .ok (.putfield 188, 3) := by decide +kernel
theorem dX7_pace_54 : decode cX7_pace 54 = .ok (.aload_n 0, 1) := by decide +kernel
theorem dX7_pace_55 : decode cX7_pace 55 = .ok (.iload_n 1, 1) := by decide +kernel
theorem dX7_pace_56 : decode cX7_pace 56 = .ok (.invokevirtual 194, 3) := by decide +kernel
theorem dX7_pace_59 : decode cX7_pace 59 = .ok (.aload_n 0, 1) := by decide +kernel
theorem dX7_pace_60 : decode cX7_pace 60 = .ok (.getfield 31, 3) := by decide +kernel
theorem dX7_pace_63 : decode cX7_pace 63 = .ok (.invokevirtual 182, 3) := by decide +kernel
theorem dX7_pace_66 : decode cX7_pace 66 = .ok (.iload 4, 2) := by decide +kernel
theorem dX7_pace_68 : decode cX7_pace 68 = .ok (.if_icmp .le 15, 3) := by decide +kernel
theorem dX7_pace_71 : decode cX7_pace 71 = .ok (.iload 5, 2) := by decide +kernel
theorem dX7_pace_73 : decode cX7_pace 73 = .ok (.istore_n 3, 1) := by decide +kernel
theorem dX7_pace_74 : decode cX7_pace 74 = .ok (.aload_n 0, 1) := by decide +kernel
theorem dX7_pace_75 : decode cX7_pace 75 = .ok (.getfield 31, 3) := by decide +kernel
theorem dX7_pace_78 : decode cX7_pace 78 = .ok (.invokevirtual 182, 3) := by decide +kernel
theorem dX7_pace_81 : decode cX7_pace 81 = .ok (.istore 4, 2) := by decide +kernel
theorem dX7_pace_83 : decode cX7_pace 83 = .ok (.iinc 5 1, 3) := by decide +kernel
theorem dX7_pace_86 : decode cX7_pace 86 = .ok (.goto (-52), 3) := by decide +kernel
theorem dX7_pace_89 : decode cX7_pace 89 = .ok (.iload_n 2, 1) := by decide +kernel
theorem dX7_pace_90 : decode cX7_pace 90 = .ok (.ifCond .ne 7, 3) := by decide +kernel
theorem dX7_pace_97 : decode cX7_pace 97 = .ok (.iload 4, 2) := by decide +kernel
theorem dX7_pace_99 : decode cX7_pace 99 = .ok (.ireturn, 1) := by decide +kernel
theorem dX7_pace_93 : decode cX7_pace 93 = .ok (.iload_n 3, 1) := by decide +kernel
theorem dX7_pace_94 : decode cX7_pace 94 = .ok (.goto 5, 3) := by decide +kernel
theorem dX7_pace_19 : decode cX7_pace 19 = .ok (.aload_n 0, 1) := by decide +kernel
theorem dX7_pace_20 : decode cX7_pace 20 = .ok (.ldc 68, 2) := by decide +kernel
theorem dX7_pace_22 : decode cX7_pace 22 = .ok (.invokevirtual 69, 3) := by decide +kernel
theorem dX7_pace_25 : decode cX7_pace 25 = .ok (.ireturn, 1) := by decide +kernel
theorem dX7_first_0 : decode cX7_first 0 = .ok (.iload_n 1, 1) := by decide +kernel
theorem dX7_first_1 : decode cX7_first 1 = .ok (.iconst 0, 1) := by decide +kernel
theorem dX7_first_2 : decode cX7_first 2 = .ok (.bipush 60, 2) := by decide +kernel
theorem dX7_first_4 : decode cX7_first 4 = .ok (.invokestatic 60, 3) := by decide +kernel
theorem dX7_first_7 : decode cX7_first 7 = .ok (.ifCond .eq 12, 3) := by decide +kernel
theorem dX7_first_10 : decode cX7_first 10 = .ok (.iload_n 2, 1) := by decide +kernel
theorem dX7_first_11 : decode cX7_first 11 = .ok (.iconst 0, 1) := by decide +kernel
theorem dX7_first_12 : decode cX7_first 12 = .ok (.iconst 1, 1) := by decide +kernel
theorem dX7_first_13 : decode cX7_first 13 = .ok (.invokestatic 60, 3) := by decide +kernel
theorem dX7_first_16 : decode cX7_first 16 = .ok (.ifCond .ne 10, 3) := by decide +kernel
theorem dX7_first_26 : decode cX7_first 26 = .ok (.iconst (-1), 1) := by decide +kernel
theorem dX7_first_27 : decode cX7_first 27 = .ok (.istore_n 3, 1) := by decide +kernel
theorem dX7_first_28 : decode cX7_first 28 = .ok (.iconst 0, 1) := by decide +kernel
theorem dX7_first_29 : decode cX7_first 29 = .ok (.istore 4, 2) := by decide +kernel
theorem dX7_first_31 : decode cX7_first 31 = .ok (.iconst 0, 1) := by decide +kernel
theorem dX7_first_32 : decode cX7_first 32 = .ok (.istore 5, 2) := by decide +kernel
theorem dX7_first_34 : decode cX7_first 34 = .ok (.iload 5, 2) := by decide +kernel
theorem dX7_first_36 : decode cX7_first 36 = .ok (.aload_n 0, 1) := by decide +kernel
theorem dX7_first_37 : decode cX7_first 37 = .ok (.getfield 12, 3) := by decide +kernel
theorem dX7_first_40 : decode cX7_first 40 = .ok (.getfield 72, 3) := by decide +kernel
theorem dX7_first_43 : decode cX7_first 43 = .ok (.getfield 86, 3) := by decide +kernel
theorem dX7_first_46 : decode cX7_first 46 = .ok (.if_icmp .ge 60, 3) := by decide +kernel
theorem dX7_first_106 : decode cX7_first 106 = .ok (.iload_n 3, 1) := by decide +kernel
theorem dX7_first_107 : decode cX7_first 107 = .ok (.ifCond .ge 10, 3) := by decide +kernel
theorem dX7_first_110 : decode cX7_first 110 = .ok (.aload_n 0, 1) := by decide +kernel
theorem dX7_first_111 : decode cX7_first 111 = .ok (.ldc 197, 2) := by decide +kernel
theorem dX7_first_113 : decode cX7_first 113 = .ok (.invokevirtual 69, 3) := by decide +kernel
theorem dX7_first_116 : decode cX7_first 116 = .ok (.ireturn, 1) := by decide +kernel
theorem dX7_first_19 : decode cX7_first 19 = .ok (.aload_n 0, 1) := by decide +kernel
theorem dX7_first_20 : decode cX7_first 20 = .ok (.ldc 68, 2) := by decide +kernel
theorem dX7_first_22 : decode cX7_first 22 = .ok (.invokevirtual 69, 3) := by decide +kernel
theorem dX7_first_25 : decode cX7_first 25 = .ok (.ireturn, 1) := by decide +kernel
theorem dX7_last_0 : decode cX7_last 0 = .ok (.iload_n 1, 1) := by decide +kernel
theorem dX7_last_1 : decode cX7_last 1 = .ok (.iconst 0, 1) := by decide +kernel
theorem dX7_last_2 : decode cX7_last 2 = .ok (.iconst 1, 1) := by decide +kernel
theorem dX7_last_3 : decode cX7_last 3 = .ok (.invokestatic 60, 3) := by decide +kernel
theorem dX7_last_6 : decode cX7_last 6 = .ok (.ifCond .ne 10, 3) := by decide +kernel
theorem dX7_last_16 : decode cX7_last 16 = .ok (.aload_n 0, 1) := by decide +kernel
theorem dX7_last_17 : decode cX7_last 17 = .ok (.invokevirtual 191, 3) := by decide +kernel
theorem dX7_last_20 : decode cX7_last 20 = .ok (.iconst (-1), 1) := by decide +kernel
theorem dX7_last_21 : decode cX7_last 21 = .ok (.istore_n 2, 1) := by decide +kernel
theorem dX7_last_22 : decode cX7_last 22 = .ok (.iconst 0, 1) := by decide +kernel
theorem dX7_last_23 : decode cX7_last 23 = .ok (.istore_n 3, 1) := by decide +kernel
theorem dX7_last_24 : decode cX7_last 24 = .ok (.iconst 1, 1) := by decide +kernel
theorem dX7_last_25 : decode cX7_last 25 = .ok (.istore 4, 2) := by decide +kernel
theorem dX7_last_27 : decode cX7_last 27 = .ok (.iload 4, 2) := by decide +kernel
theorem dX7_last_29 : decode cX7_last 29 = .ok (.bipush 60, 2) := by decide +kernel
theorem dX7_last_31 : decode cX7_last 31 = .ok (.if_icmp .gt 54, 3) := by decide +kernel
theorem dX7_last_85 : decode cX7_last 85 = .ok (.iload_n 2, 1) := by decide +kernel
theorem dX7_last_86 : decode cX7_last 86 = .ok (.ifCond .ge 10, 3) := by decide +kernel
theorem dX7_last_89 : decode cX7_last 89 = .ok (.aload_n 0, 1) := by decide +kernel
theorem dX7_last_90 : decode cX7_last 90 = .ok (.ldc 197, 2) := by decide +kernel
theorem dX7_last_92 : decode cX7_last 92 = .ok (.invokevirtual 69, 3) := by decide +kernel
theorem dX7_last_95 : decode cX7_last 95 = .ok (.ireturn, 1) := by decide +kernel
theorem dX7_last_34 : decode cX7_last 34 = .ok (.aload_n 0, 1) := by decide +kernel
theorem dX7_last_35 : decode cX7_last 35 = .ok (.getfield 31, 3) := by decide +kernel
theorem dX7_last_38 : decode cX7_last 38 = .ok (.invokevirtual 198, 3) := by decide +kernel
theorem dX7_last_41 : decode cX7_last 41 = .ok (.istore 5, 2) := by decide +kernel
theorem dX7_last_43 : decode cX7_last 43 = .ok (.aload_n 0, 1) := by decide +kernel
theorem dX7_last_44 : decode cX7_last 44 = .ok (.getfield 31, 3) := by decide +kernel
theorem dX7_last_47 : decode cX7_last 47 = .ok (.iconst 0, 1) := by decide +kernel
theorem dX7_last_48 : decode cX7_last 48 = .ok (.invokevirtual 178, 3) := by decide +kernel
theorem dX7_last_51 : decode cX7_last 51 = .ok (.aload_n 0, 1) := by decide +kernel
theorem dX7_last_52 : decode cX7_last 52 = .ok (.getfield 31, 3) := by decide +kernel
theorem dX7_last_55 : decode cX7_last 55 = .ok (.invokevirtual 198, 3) := by decide +kernel
theorem dX7_last_58 : decode cX7_last 58 = .ok (.iload 5, 2) := by decide +kernel
theorem dX7_last_60 : decode cX7_last 60 = .ok (.iconst (-1), 1) := by decide +kernel
theorem dX7_last_61 : decode cX7_last 61 = .ok (.ixor, 1) := by decide +kernel
theorem dX7_last_62 : decode cX7_last 62 = .ok (.iand, 1) := by decide +kernel
theorem dX7_last_63 : decode cX7_last 63 = .ok (.istore 6, 2) := by decide +kernel
theorem dX7_last_65 : decode cX7_last 65 = .ok (.iload 6, 2) := by decide +kernel
theorem dX7_last_67 : decode cX7_last 67 = .ok (.ifCond .eq 12, 3) := by decide +kernel
theorem dX7_last_79 : decode cX7_last 79 = .ok (.iinc 4 1, 3) := by decide +kernel
theorem dX7_last_82 : decode cX7_last 82 = .ok (.goto (-55), 3) := by decide +kernel
theorem dX7_last_9 : decode cX7_last 9 = .ok (.aload_n 0, 1) := by decide +kernel
theorem dX7_last_10 : decode cX7_last 10 = .ok (.ldc 68, 2) := by decide +kernel
theorem dX7_last_12 : decode cX7_last 12 = .ok (.invokevirtual 69, 3) := by decide +kernel
theorem dX7_last_15 : decode cX7_last 15 = .ok (.ireturn, 1) := by decide +kernel
theorem dX7_check_0 : decode cX7_check 0 = .ok (.aload_n 0, 1) := by decide +kernel
theorem dX7_check_1 : decode cX7_check 1 = .ok (.getfield 12, 3) := by decide +kernel
theorem dX7_check_4 : decode cX7_check 4 = .ok (.getfield 304, 3) := by decide +kernel
theorem dX7_check_7 : decode cX7_check 7 = .ok (.istore_n 1, 1) := by decide +kernel
theorem dX7_check_8 : decode cX7_check 8 = .ok (.aload_n 0, 1) := by decide +kernel
theorem dX7_check_9 : decode cX7_check 9 = .ok (.getfield 12, 3) := by decide +kernel
theorem dX7_check_12 : decode cX7_check 12 = .ok (.iconst 0, 1) := by decide +kernel
theorem dX7_check_13 : decode cX7_check 13 = .ok (.putfield 304, 3) := by decide +kernel
theorem dX7_check_16 : decode cX7_check 16 = .ok (.aload_n 0, 1) := by decide +kernel
theorem dX7_check_17 : decode cX7_check 17 = .ok (.invokevirtual 191, 3) := by decide +kernel
theorem dX7_check_20 : decode cX7_check 20 = .ok (.iconst 0, 1) := by decide +kernel
theorem dX7_check_21 : decode cX7_check 21 = .ok (.istore_n 2, 1) := by decide +kernel
theorem dX7_check_22 : decode cX7_check 22 = .ok (.iload_n 2, 1) := by decide +kernel
theorem dX7_check_23 : decode cX7_check 23 = .ok (.iload_n 1, 1) := by decide +kernel
theorem dX7_check_24 : decode cX7_check 24 = .ok (.if_icmp .ge 40, 3) := by decide +kernel
theorem dX7_check_64 : decode cX7_check 64 = .ok (.iconst 0, 1) := by decide +kernel
theorem dX7_check_65 : decode cX7_check 65 = .ok (.ireturn, 1) := by decide +kernel
set_option maxRecDepth 100000 in
set_option maxHeartbeats 4000000 in
theorem c_think0 (l : Launch) (D : va_G) (y : wY) (ad : Nat → Nat) (M : Mem) (hm : M 12 3 = 0) : MV l D y ad yX7_think (Cond.code yX7_think cX7_think 1 none) 2 M [.ref (ad 0)] (fun M' => sm (fun b k => b == 49 && (3 ≤ k && k ≤ 8)) M M' ∧ M' 49 3 = M 12 3 ∧ M' 49 7 = M 12 7 ∧ M' 49 8 = M 12 8) := by
  refine MV_of (by decide) (Nat.le_of_ble_eq_true rfl) ?_
  intro p e s m args below meth c X hr hlocks
  refine j_lv (lv1 := [(0, .ref (ad 0))]) [0] rfl ?_
  refine j_aload_n X 0 rfl rfl dX7_think_0 ?_
  refine j_get X (by decide) (wE_7 _ rfl) rfl awF7 2 (by decide) aw_21 rfl (v := .ref (ad 49)) rfl dX7_think_1 ?_
  refine j_aload_n X 0 rfl rfl dX7_think_4 ?_
  refine j_get X (by decide) (wE_7 _ rfl) rfl awF7 0 (by decide) aw_16 rfl (v := .ref (ad 1)) rfl dX7_think_5 ?_
  refine j_getN X (by decide) (wE_6 _ rfl) rfl awF6 2 (by decide) (List.mem_of_getElem? (i := 23) rfl) rfl (v := .ref (ad 12)) rfl dX7_think_8 ?_
  refine j_callVNV X (nn := 1) (As := [.ref (ad 12)]) (st := []) (ci := 0) (by decide) (wE_0 _ rfl) rfl aw_537 aw_538 (c_copyFrom0_49 l D y ad M hm) (List.mem_of_getElem? (i := 33) rfl) aw_539 aw_20 (by decide +kernel) ⟨by decide, by decide⟩ rfl (Nat.le_of_ble_eq_true rfl) ⟨by decide, by decide⟩ dX7_think_11 ?_
  rintro M_2 ⟨s_1, s_1_3, s_1_7, s_1_8⟩
  exact j_vret X hr hlocks dX7_think_14 ⟨s_1, s_1_3, s_1_7, s_1_8⟩
set_option maxRecDepth 100000 in
set_option maxHeartbeats 4000000 in
theorem c_thinkDays0 (l : Launch) (D : va_G) (y : wY) (ad : Nat → Nat) (M : Mem) (N : Nat) (hN : N ≤ 60) (hm : M 49 3 = 0) : MV l D y ad yX7_thinkDays (Cond.code yX7_thinkDays cX7_thinkDays 3 none) 3 M [.ref (ad 0), .int (nI N)] (fun M' => sm (fun b k => b == 49 && (k == 4 || k == 6)) M M') := by
  refine MV_of (by decide) (Nat.le_of_ble_eq_true rfl) ?_
  intro p e s m args below meth c X hr hlocks
  refine j_lv (lv1 := [(0, .ref (ad 0)), (1, .int (nI N))]) [0, 1] rfl ?_
  refine j_iconst X (v := 0) (by decide) dX7_thinkDays_0 ?_
  refine j_istore_n X [(2, .int 0), (0, .ref (ad 0)), (1, .int (nI N))] rfl (by decide) rfl dX7_thinkDays_1 ?_
  have loop1 : ∀ (n_1 i_1 : Nat) (M1 : Mem), i_1 ≤ N → N - i_1 < n_1 → sm (fun b k => b == 49 && (k == 4 || k == 6)) M M1 → J p l e (rmN 3) s m args below meth c 0 0 (QV (fun M' => sm (fun b k => b == 49 && (k == 4 || k == 6)) M M') D y ad M s args below) D y ad (va_A (PL y ad M) s.heap.size) 3 M1 2 [(2, .int (nI i_1)), (0, .ref (ad 0)), (1, .int (nI N))] [] := by
    intro n_1
    induction n_1 with
    | zero => intro i_1 M1 h1 h2; exact absurd h2 (by omega)
    | succ n_1 ih1 =>
      intro i_1 M1 h1i_1 h2i_1 hs1
      refine j_iload_n X 0 rfl rfl dX7_thinkDays_2 ?_
      refine j_iload_n X 2 rfl rfl dX7_thinkDays_3 ?_
      refine j_icmp_ge X 21 (by decide) dX7_thinkDays_4 (fun c_2 => ?_) (fun c_2 => ?_)
      · have c_2 := (nI_leI (by omega) (by omega)).mp (show nI (N) ≤ nI i_1 from c_2)
        exact j_vret X hr hlocks dX7_thinkDays_21 (sm_tr sm_rf (sm_w hs1 (by intro b k hb; simp only [Bool.or_eq_false_iff, Bool.and_eq_false_iff, beq_eq_false_iff_ne, ne_eq, decide_eq_false_iff_not] at hb ⊢; omega)))
      · have c_2 : i_1 < N := by
          rcases Nat.lt_or_ge i_1 (N) with g | g
          · exact g
          · exact absurd (show nI (N) ≤ nI i_1 from nI_le g (by omega)) c_2
        refine j_aload_n X 1 rfl rfl dX7_thinkDays_7 ?_
        refine j_get X (by decide) (wE_7 _ rfl) rfl awF7 2 (by decide) aw_21 rfl (v := .ref (ad 49)) rfl dX7_thinkDays_8 ?_
        refine j_iconst X (v := 0) (by decide) dX7_thinkDays_11 ?_
        refine j_callVNV X (nn := 1) (As := [.int 0]) (st := []) (ci := 0) (by decide) (wE_0 _ rfl) rfl aw_439 aw_440 (c_passDay0_49 l D y ad M1 ((hs1 49 3 rfl).trans hm) 0) (List.mem_of_getElem? (i := 27) rfl) aw_441 aw_20 (by decide +kernel) ⟨by decide, by decide⟩ rfl (Nat.le_of_ble_eq_true rfl) ⟨by decide, by decide⟩ dX7_thinkDays_12 ?_
        rintro M_4 s_3
        refine j_iinc X (v := (nI (i_1 + 1))) 0 [(2, .int (nI (i_1 + 1))), (0, .ref (ad 0)), (1, .int (nI N))] rfl (show nI i_1 + Int32.ofInt 1 = _ from nI_1 i_1) (by decide) rfl dX7_thinkDays_15 ?_
        refine j_goto X 2 (by decide) dX7_thinkDays_18 ?_
        refine j_lv (lv1 := [(2, .int (nI (i_1 + 1))), (0, .ref (ad 0)), (1, .int (nI N))]) [0, 1, 2] rfl ?_
        exact ih1 (i_1 + 1) _ (by omega) (by omega) (sm_tr hs1 (sm_w s_3 (by intro b k hb; simp only [Bool.or_eq_false_iff, Bool.and_eq_false_iff, beq_eq_false_iff_ne, ne_eq, decide_eq_false_iff_not] at hb ⊢; omega)))
  refine j_lv (lv1 := [(2, .int (nI 0)), (0, .ref (ad 0)), (1, .int (nI N))]) [0, 1, 2] rfl ?_
  exact loop1 (N + 1) 0 _ (by omega) (by omega) sm_rf
set_option maxRecDepth 100000 in
set_option maxHeartbeats 4000000 in
theorem c_thinkDaysWithHarm0 (l : Launch) (D : va_G) (y : wY) (ad : Nat → Nat) (M : Mem) (N : Nat) (hN : N ≤ 60) (hm : M 49 3 = 0) : MV l D y ad yX7_thinkDaysWithHarm (Cond.code yX7_thinkDaysWithHarm cX7_thinkDaysWithHarm 3 none) 3 M [.ref (ad 0), .int (nI N)] (fun M' => sm (fun b k => b == 49 && (k == 4 || k == 6)) M M') := by
  refine MV_of (by decide) (Nat.le_of_ble_eq_true rfl) ?_
  intro p e s m args below meth c X hr hlocks
  refine j_lv (lv1 := [(0, .ref (ad 0)), (1, .int (nI N))]) [0, 1] rfl ?_
  refine j_iconst X (v := 0) (by decide) dX7_thinkDaysWithHarm_0 ?_
  refine j_istore_n X [(2, .int 0), (0, .ref (ad 0)), (1, .int (nI N))] rfl (by decide) rfl dX7_thinkDaysWithHarm_1 ?_
  have loop1 : ∀ (n_1 i_1 : Nat) (M1 : Mem), i_1 ≤ N → N - i_1 < n_1 → sm (fun b k => b == 49 && (k == 4 || k == 6)) M M1 → J p l e (rmN 3) s m args below meth c 0 0 (QV (fun M' => sm (fun b k => b == 49 && (k == 4 || k == 6)) M M') D y ad M s args below) D y ad (va_A (PL y ad M) s.heap.size) 3 M1 2 [(2, .int (nI i_1)), (0, .ref (ad 0)), (1, .int (nI N))] [] := by
    intro n_1
    induction n_1 with
    | zero => intro i_1 M1 h1 h2; exact absurd h2 (by omega)
    | succ n_1 ih1 =>
      intro i_1 M1 h1i_1 h2i_1 hs1
      refine j_iload_n X 0 rfl rfl dX7_thinkDaysWithHarm_2 ?_
      refine j_iload_n X 2 rfl rfl dX7_thinkDaysWithHarm_3 ?_
      refine j_icmp_ge X 21 (by decide) dX7_thinkDaysWithHarm_4 (fun c_2 => ?_) (fun c_2 => ?_)
      · have c_2 := (nI_leI (by omega) (by omega)).mp (show nI (N) ≤ nI i_1 from c_2)
        exact j_vret X hr hlocks dX7_thinkDaysWithHarm_21 (sm_tr sm_rf (sm_w hs1 (by intro b k hb; simp only [Bool.or_eq_false_iff, Bool.and_eq_false_iff, beq_eq_false_iff_ne, ne_eq, decide_eq_false_iff_not] at hb ⊢; omega)))
      · have c_2 : i_1 < N := by
          rcases Nat.lt_or_ge i_1 (N) with g | g
          · exact g
          · exact absurd (show nI (N) ≤ nI i_1 from nI_le g (by omega)) c_2
        refine j_aload_n X 1 rfl rfl dX7_thinkDaysWithHarm_7 ?_
        refine j_get X (by decide) (wE_7 _ rfl) rfl awF7 2 (by decide) aw_21 rfl (v := .ref (ad 49)) rfl dX7_thinkDaysWithHarm_8 ?_
        refine j_iconst X (v := 1) (by decide) dX7_thinkDaysWithHarm_11 ?_
        refine j_callVNV X (nn := 1) (As := [.int 1]) (st := []) (ci := 0) (by decide) (wE_0 _ rfl) rfl aw_439 aw_440 (c_passDay0_49 l D y ad M1 ((hs1 49 3 rfl).trans hm) 1) (List.mem_of_getElem? (i := 27) rfl) aw_441 aw_20 (by decide +kernel) ⟨by decide, by decide⟩ rfl (Nat.le_of_ble_eq_true rfl) ⟨by decide, by decide⟩ dX7_thinkDaysWithHarm_12 ?_
        rintro M_4 s_3
        refine j_iinc X (v := (nI (i_1 + 1))) 0 [(2, .int (nI (i_1 + 1))), (0, .ref (ad 0)), (1, .int (nI N))] rfl (show nI i_1 + Int32.ofInt 1 = _ from nI_1 i_1) (by decide) rfl dX7_thinkDaysWithHarm_15 ?_
        refine j_goto X 2 (by decide) dX7_thinkDaysWithHarm_18 ?_
        refine j_lv (lv1 := [(2, .int (nI (i_1 + 1))), (0, .ref (ad 0)), (1, .int (nI N))]) [0, 1, 2] rfl ?_
        exact ih1 (i_1 + 1) _ (by omega) (by omega) (sm_tr hs1 (sm_w s_3 (by intro b k hb; simp only [Bool.or_eq_false_iff, Bool.and_eq_false_iff, beq_eq_false_iff_ne, ne_eq, decide_eq_false_iff_not] at hb ⊢; omega)))
  refine j_lv (lv1 := [(2, .int (nI 0)), (0, .ref (ad 0)), (1, .int (nI N))]) [0, 1, 2] rfl ?_
  exact loop1 (N + 1) 0 _ (by omega) (by omega) sm_rf
set_option maxRecDepth 100000 in
set_option maxHeartbeats 4000000 in
theorem c0_X7_days (l : Launch) (D : va_G) (y : wY) (ad : Nat → Nat) (M : Mem) (hz : Z0 M) (n : Int32) : MI l D y ad yX7_days (Cond.code yX7_days cX7_days 3 (some .int)) 6 M [.ref (ad 0), .int n] (fun r M' => sp_days n = r ∧ sm (fun b _ => decide (b < 79)) M M') := by
  refine MI_of (by decide) (Nat.le_of_ble_eq_true rfl) ?_
  intro p e s m args below meth c X hr hlocks
  refine j_lv (lv1 := [(0, .ref (ad 0)), (1, .int n)]) [0, 1] rfl ?_
  refine j_iload_n X 1 rfl rfl dX7_days_0 ?_
  refine j_iconst X (v := 1) (by decide) dX7_days_1 ?_
  refine j_bipush X (v := 60) (by decide) dX7_days_2 ?_
  refine j_callSI X (nn := 3) (As := [.int n, .int 1, .int 60]) (st := []) aw_110 (c_X7_isWithin l D y ad M n 1 60 1 60 (by decide) (by decide)) aw_109 aw_111 aw_2 (by decide +kernel) ⟨by decide, by decide⟩ rfl (Nat.le_of_ble_eq_true rfl) ⟨by decide, by decide⟩ dX7_days_4 ?_
  rintro r_ M1_ (⟨rfl, rfl, h_1⟩ | ⟨rfl, rfl, h_1⟩)
  · refine j_if_ne X 17 (by decide) dX7_days_7 (fun c_2 => ?_) (fun c_2 => False.elim (by revert c_2; decide))
    obtain ⟨N, hN, rfl⟩ := nI_oft (x := n) (n := 60) (by omega) (by omega) (by decide)
    rw [nI_ti hN (by decide)] at h_1
    refine j_aload_n X 0 rfl rfl dX7_days_17 ?_
    refine j_get X (by decide) (wE_7 _ rfl) rfl awF7 0 (by decide) aw_16 rfl (v := .ref (ad 1)) rfl dX7_days_18 ?_
    refine j_getN X (by decide) (wE_6 _ rfl) rfl awF6 2 (by decide) (List.mem_of_getElem? (i := 23) rfl) rfl (v := .ref (ad 12)) rfl dX7_days_21 ?_
    refine j_getN X (by decide) (wE_0 _ rfl) rfl awF0 6 (by decide) (List.mem_of_getElem? (i := 18) rfl) rfl (v := .int (M 12 6)) rfl dX7_days_24 ?_
    refine j_eqi (v := 0) hz.2.2.2.1 ?_
    refine j_iload_n X 1 rfl rfl dX7_days_27 ?_
    refine j_iadd X dX7_days_28 ?_
    refine j_eqi (v := (nI N)) (Int32.zero_add _) ?_
    refine j_sipush X (v := 9999) (by decide) dX7_days_29 ?_
    refine j_icmp_le X 42 (by decide) dX7_days_32 (fun c_3 => ?_) (fun c_3 => False.elim (c_3 (show nI N ≤ nI 9999 from nI_le (by omega) (by decide))))
    refine j_iconst X (v := 0) (by decide) dX7_days_42 ?_
    refine j_istore_n X [(2, .int 0), (0, .ref (ad 0)), (1, .int (nI N))] rfl (by decide) rfl dX7_days_43 ?_
    have loop4 : ∀ (n_4 i_4 : Nat) (M4 : Mem), i_4 ≤ N → N - i_4 < n_4 → sm (fun b k => b == 12 && (k == 4 || k == 6)) M M4 → J p l e (rmN 6) s m args below meth c 0 0 (QI (fun r M' => sp_days (nI N) = r ∧ sm (fun b _ => decide (b < 79)) M M') D y ad M s args below) D y ad (va_A (PL y ad M) s.heap.size) 3 M4 44 [(2, .int (nI i_4)), (0, .ref (ad 0)), (1, .int (nI N))] [] := by
      intro n_4
      induction n_4 with
      | zero => intro i_4 M4 h1 h2; exact absurd h2 (by omega)
      | succ n_4 ih4 =>
        intro i_4 M4 h1i_4 h2i_4 hs4
        refine j_iload_n X 0 rfl rfl dX7_days_44 ?_
        refine j_iload_n X 2 rfl rfl dX7_days_45 ?_
        refine j_icmp_ge X 66 (by decide) dX7_days_46 (fun c_5 => ?_) (fun c_5 => ?_)
        · have c_5 := (nI_leI (by omega) (by omega)).mp (show nI (N) ≤ nI i_4 from c_5)
          refine j_aload_n X 1 rfl rfl dX7_days_66 ?_
          refine j_get X (by decide) (wE_7 _ rfl) rfl awF7 0 (by decide) aw_16 rfl (v := .ref (ad 1)) rfl dX7_days_67 ?_
          refine j_getN X (by decide) (wE_6 _ rfl) rfl awF6 2 (by decide) (List.mem_of_getElem? (i := 23) rfl) rfl (v := .ref (ad 12)) rfl dX7_days_70 ?_
          refine j_callVNI X (nn := 0) (As := []) (st := []) (ci := 0) (by decide) (wE_0 _ rfl) rfl aw_462 aw_463 (c_endedMany0_12 l D y ad M4 ((hs4 12 3 rfl).trans hz.1)) (List.mem_of_getElem? (i := 31) rfl) aw_464 aw_20 (by decide +kernel) ⟨by decide, by decide⟩ rfl (Nat.le_of_ble_eq_true rfl) ⟨by decide, by decide⟩ dX7_days_73 ?_
          rintro r_ M1_ ⟨rfl, rfl⟩
          exact j_iret X hr hlocks dX7_days_76 ⟨(by unfold sp_days; rw [nI_ti hN (by decide)]; (repeat' split) <;> first | rfl | omega | (exfalso; omega)), (sm_tr sm_rf (sm_w hs4 (by intro b k hb; simp only [Bool.or_eq_false_iff, Bool.and_eq_false_iff, beq_eq_false_iff_ne, ne_eq, decide_eq_false_iff_not] at hb ⊢; omega)))⟩
        · have c_5 : i_4 < N := by
            rcases Nat.lt_or_ge i_4 (N) with g | g
            · exact g
            · exact absurd (show nI (N) ≤ nI i_4 from nI_le g (by omega)) c_5
          refine j_aload_n X 1 rfl rfl dX7_days_49 ?_
          refine j_get X (by decide) (wE_7 _ rfl) rfl awF7 0 (by decide) aw_16 rfl (v := .ref (ad 1)) rfl dX7_days_50 ?_
          refine j_getN X (by decide) (wE_6 _ rfl) rfl awF6 2 (by decide) (List.mem_of_getElem? (i := 23) rfl) rfl (v := .ref (ad 12)) rfl dX7_days_53 ?_
          refine j_iconst X (v := 1) (by decide) dX7_days_56 ?_
          refine j_callVNV X (nn := 1) (As := [.int 1]) (st := []) (ci := 0) (by decide) (wE_0 _ rfl) rfl aw_439 aw_440 (c_passDay0_12 l D y ad M4 ((hs4 12 3 rfl).trans hz.1) 1) (List.mem_of_getElem? (i := 27) rfl) aw_441 aw_20 (by decide +kernel) ⟨by decide, by decide⟩ rfl (Nat.le_of_ble_eq_true rfl) ⟨by decide, by decide⟩ dX7_days_57 ?_
          rintro M_7 s_6
          refine j_iinc X (v := (nI (i_4 + 1))) 0 [(2, .int (nI (i_4 + 1))), (0, .ref (ad 0)), (1, .int (nI N))] rfl (show nI i_4 + Int32.ofInt 1 = _ from nI_1 i_4) (by decide) rfl dX7_days_60 ?_
          refine j_goto X 44 (by decide) dX7_days_63 ?_
          refine j_lv (lv1 := [(2, .int (nI (i_4 + 1))), (0, .ref (ad 0)), (1, .int (nI N))]) [0, 1, 2] rfl ?_
          exact ih4 (i_4 + 1) _ (by omega) (by omega) (sm_tr hs4 (sm_w s_6 (by intro b k hb; simp only [Bool.or_eq_false_iff, Bool.and_eq_false_iff, beq_eq_false_iff_ne, ne_eq, decide_eq_false_iff_not] at hb ⊢; omega)))
    refine j_lv (lv1 := [(2, .int (nI 0)), (0, .ref (ad 0)), (1, .int (nI N))]) [0, 1, 2] rfl ?_
    exact loop4 (N + 1) 0 _ (by omega) (by omega) sm_rf
  · refine j_if_ne X 17 (by decide) dX7_days_7 (fun c_8 => False.elim (by revert c_8; decide)) (fun c_8 => ?_)
    refine j_aload_n X 0 rfl rfl dX7_days_10 ?_
    refine j_ldc X (v := (-1000000001)) aw_108 dX7_days_11 ?_
    refine j_callVI X (nn := 1) (As := [.int (-1000000001)]) (st := []) (ci := 7) (by decide) (wE_7 _ rfl) rfl aw_117 aw_118 (c_X7_refuse l D y ad M (-1000000001) 1 (by decide) (by decide)) aw_116 aw_119 aw_2 (by decide +kernel) ⟨by decide, by decide⟩ rfl (Nat.le_of_ble_eq_true rfl) ⟨by decide, by decide⟩ dX7_days_13 ?_
    rintro r_ M1_ ⟨rfl, rfl⟩
    exact j_iret X hr hlocks dX7_days_16 ⟨(by unfold sp_days; (repeat' split) <;> first | rfl | omega | (exfalso; omega)), (sm_up sm_rf rfl)⟩
set_option maxRecDepth 100000 in
set_option maxHeartbeats 4000000 in
theorem c_draw (l : Launch) (D : va_G) (y : wY) (ad : Nat → Nat) (M : Mem)  : MI l D y ad yX6_draw (Cond.code yX6_draw cX6_draw 1 (some .int)) 0 M [.ref (ad 1)] (fun r M' => sm (fun b k => b == 1 && k == 7) M M') := by
  refine MI_of (by decide) (Nat.le_of_ble_eq_true rfl) ?_
  intro p e s m args below meth c X hr hlocks
  refine j_lv (lv1 := [(0, .ref (ad 1))]) [0] rfl ?_
  refine j_aload_n X 0 rfl rfl dX6_draw_0 ?_
  refine j_aload_n X 0 rfl rfl dX6_draw_1 ?_
  refine j_get X (by decide) (wE_6 _ rfl) rfl awF6 7 (by decide) aw_48 rfl (v := .int (M 1 7)) rfl dX6_draw_2 ?_
  refine j_ldc X (v := 1103515245) aw_519 dX6_draw_5 ?_
  refine j_imul X dX6_draw_7 ?_
  refine j_sipush X (v := 12345) (by decide) dX6_draw_8 ?_
  refine j_iadd X dX6_draw_11 ?_
  refine j_put X (up M 1 7 (((M 1 7) * 1103515245) + 12345)) up_o (by decide) (wE_6 _ rfl) rfl awF6 7 (by decide) (wP_6_7 _ _ rfl) tyX6 tyX6_ok nmX6 rfl (ty := .int) (by decide +kernel) rfl rfl (Nat.le_of_ble_eq_true rfl) aw_48 rfl dX6_draw_12 ?_
  refine j_aload_n X 0 rfl rfl dX6_draw_15 ?_
  refine j_get X (by decide) (wE_6 _ rfl) rfl awF6 7 (by decide) aw_48 rfl (v := .int ((up M 1 7 (((M 1 7) * 1103515245) + 12345)) 1 7)) rfl dX6_draw_16 ?_
  refine j_eqi (v := (((M 1 7) * 1103515245) + 12345)) (by simp [up]) ?_
  refine j_bipush X (v := 8) (by decide) dX6_draw_19 ?_
  refine j_iushr X dX6_draw_21 ?_
  exact j_iret X hr hlocks dX6_draw_22 (sm_up sm_rf rfl)
set_option maxRecDepth 100000 in
set_option maxHeartbeats 4000000 in
theorem c0_X7_loose (l : Launch) (D : va_G) (y : wY) (ad : Nat → Nat) (M : Mem) (hz : Z0 M) (n : Int32) : MI l D y ad yX7_loose (Cond.code yX7_loose cX7_loose 3 (some .int)) 6 M [.ref (ad 0), .int n] (fun r M' => sp_loose n = r ∧ sm (fun b _ => decide (b < 79)) M M') := by
  refine MI_of (by decide) (Nat.le_of_ble_eq_true rfl) ?_
  intro p e s m args below meth c X hr hlocks
  refine j_lv (lv1 := [(0, .ref (ad 0)), (1, .int n)]) [0, 1] rfl ?_
  refine j_iload_n X 1 rfl rfl dX7_loose_0 ?_
  refine j_iconst X (v := 1) (by decide) dX7_loose_1 ?_
  refine j_bipush X (v := 40) (by decide) dX7_loose_2 ?_
  refine j_callSI X (nn := 3) (As := [.int n, .int 1, .int 40]) (st := []) aw_110 (c_X7_isWithin l D y ad M n 1 40 1 40 (by decide) (by decide)) aw_109 aw_111 aw_2 (by decide +kernel) ⟨by decide, by decide⟩ rfl (Nat.le_of_ble_eq_true rfl) ⟨by decide, by decide⟩ dX7_loose_4 ?_
  rintro r_ M1_ (⟨rfl, rfl, h_1⟩ | ⟨rfl, rfl, h_1⟩)
  · refine j_if_ne X 17 (by decide) dX7_loose_7 (fun c_2 => ?_) (fun c_2 => False.elim (by revert c_2; decide))
    obtain ⟨N, hN, rfl⟩ := nI_oft (x := n) (n := 40) (by omega) (by omega) (by decide)
    rw [nI_ti hN (by decide)] at h_1
    refine j_aload_n X 0 rfl rfl dX7_loose_17 ?_
    refine j_get X (by decide) (wE_7 _ rfl) rfl awF7 0 (by decide) aw_16 rfl (v := .ref (ad 1)) rfl dX7_loose_18 ?_
    refine j_getN X (by decide) (wE_6 _ rfl) rfl awF6 2 (by decide) (List.mem_of_getElem? (i := 23) rfl) rfl (v := .ref (ad 12)) rfl dX7_loose_21 ?_
    refine j_getN X (by decide) (wE_0 _ rfl) rfl awF0 6 (by decide) (List.mem_of_getElem? (i := 18) rfl) rfl (v := .int (M 12 6)) rfl dX7_loose_24 ?_
    refine j_eqi (v := 0) hz.2.2.2.1 ?_
    refine j_iload_n X 1 rfl rfl dX7_loose_27 ?_
    refine j_iadd X dX7_loose_28 ?_
    refine j_eqi (v := (nI N)) (Int32.zero_add _) ?_
    refine j_sipush X (v := 9999) (by decide) dX7_loose_29 ?_
    refine j_icmp_le X 42 (by decide) dX7_loose_32 (fun c_3 => ?_) (fun c_3 => False.elim (c_3 (show nI N ≤ nI 9999 from nI_le (by omega) (by decide))))
    refine j_iconst X (v := 0) (by decide) dX7_loose_42 ?_
    refine j_istore_n X [(2, .int 0), (0, .ref (ad 0)), (1, .int (nI N))] rfl (by decide) rfl dX7_loose_43 ?_
    have loop4 : ∀ (n_4 i_4 : Nat) (M4 : Mem), i_4 ≤ N → N - i_4 < n_4 → sm (fun b k => (b == 12 && (k == 4 || k == 5 || k == 6)) || (b == 1 && k == 7)) M M4 → J p l e (rmN 6) s m args below meth c 0 0 (QI (fun r M' => sp_loose (nI N) = r ∧ sm (fun b _ => decide (b < 79)) M M') D y ad M s args below) D y ad (va_A (PL y ad M) s.heap.size) 3 M4 44 [(2, .int (nI i_4)), (0, .ref (ad 0)), (1, .int (nI N))] [] := by
      intro n_4
      induction n_4 with
      | zero => intro i_4 M4 h1 h2; exact absurd h2 (by omega)
      | succ n_4 ih4 =>
        intro i_4 M4 h1i_4 h2i_4 hs4
        refine j_iload_n X 0 rfl rfl dX7_loose_44 ?_
        refine j_iload_n X 2 rfl rfl dX7_loose_45 ?_
        refine j_icmp_ge X 86 (by decide) dX7_loose_46 (fun c_5 => ?_) (fun c_5 => ?_)
        · have c_5 := (nI_leI (by omega) (by omega)).mp (show nI (N) ≤ nI i_4 from c_5)
          refine j_aload_n X 1 rfl rfl dX7_loose_86 ?_
          refine j_get X (by decide) (wE_7 _ rfl) rfl awF7 0 (by decide) aw_16 rfl (v := .ref (ad 1)) rfl dX7_loose_87 ?_
          refine j_getN X (by decide) (wE_6 _ rfl) rfl awF6 2 (by decide) (List.mem_of_getElem? (i := 23) rfl) rfl (v := .ref (ad 12)) rfl dX7_loose_90 ?_
          refine j_callVNI X (nn := 0) (As := []) (st := []) (ci := 0) (by decide) (wE_0 _ rfl) rfl aw_462 aw_463 (c_endedMany0_12 l D y ad M4 ((hs4 12 3 rfl).trans hz.1)) (List.mem_of_getElem? (i := 31) rfl) aw_464 aw_20 (by decide +kernel) ⟨by decide, by decide⟩ rfl (Nat.le_of_ble_eq_true rfl) ⟨by decide, by decide⟩ dX7_loose_93 ?_
          rintro r_ M1_ ⟨rfl, rfl⟩
          exact j_iret X hr hlocks dX7_loose_96 ⟨(by unfold sp_loose; rw [nI_ti hN (by decide)]; (repeat' split) <;> first | rfl | omega | (exfalso; omega)), (sm_tr sm_rf (sm_w hs4 (by intro b k hb; simp only [Bool.or_eq_false_iff, Bool.and_eq_false_iff, beq_eq_false_iff_ne, ne_eq, decide_eq_false_iff_not] at hb ⊢; omega)))⟩
        · have c_5 : i_4 < N := by
            rcases Nat.lt_or_ge i_4 (N) with g | g
            · exact g
            · exact absurd (show nI (N) ≤ nI i_4 from nI_le g (by omega)) c_5
          refine j_aload_n X 1 rfl rfl dX7_loose_49 ?_
          refine j_get X (by decide) (wE_7 _ rfl) rfl awF7 0 (by decide) aw_16 rfl (v := .ref (ad 1)) rfl dX7_loose_50 ?_
          refine j_getN X (by decide) (wE_6 _ rfl) rfl awF6 2 (by decide) (List.mem_of_getElem? (i := 23) rfl) rfl (v := .ref (ad 12)) rfl dX7_loose_53 ?_
          refine j_aload_n X 1 rfl rfl dX7_loose_56 ?_
          refine j_get X (by decide) (wE_7 _ rfl) rfl awF7 0 (by decide) aw_16 rfl (v := .ref (ad 1)) rfl dX7_loose_57 ?_
          refine j_callVNI X (nn := 0) (As := []) (st := [.ref (ad 12)]) (ci := 6) (by decide) (wE_6 _ rfl) rfl aw_516 aw_517 (c_draw l D y ad M4) (List.mem_of_getElem? (i := 32) rfl) aw_518 aw_15 (by decide +kernel) ⟨by decide, by decide⟩ rfl (Nat.le_of_ble_eq_true rfl) ⟨by decide, by decide⟩ dX7_loose_60 ?_
          rintro r_ M_7 s_6
          refine j_bipush X (v := 10) (by decide) dX7_loose_63 ?_
          refine j_irem X (by decide) dX7_loose_65 ?_
          refine j_putN X (up M_7 12 5 (r_ - r_ / 10 * 10)) up_o (by decide) (wE_0 _ rfl) rfl awF0 5 (by decide) (wP_0_5 _ _ rfl) tyX0 tyX0_ok nmX0 rfl (ty := .int) (by decide +kernel) rfl rfl (Nat.le_of_ble_eq_true rfl) (List.mem_of_getElem? (i := 17) rfl) rfl dX7_loose_66 ?_
          refine j_aload_n X 1 rfl rfl dX7_loose_69 ?_
          refine j_get X (by decide) (wE_7 _ rfl) rfl awF7 0 (by decide) aw_16 rfl (v := .ref (ad 1)) rfl dX7_loose_70 ?_
          refine j_getN X (by decide) (wE_6 _ rfl) rfl awF6 2 (by decide) (List.mem_of_getElem? (i := 23) rfl) rfl (v := .ref (ad 12)) rfl dX7_loose_73 ?_
          refine j_iconst X (v := 1) (by decide) dX7_loose_76 ?_
          refine j_callVNV X (nn := 1) (As := [.int 1]) (st := []) (ci := 0) (by decide) (wE_0 _ rfl) rfl aw_439 aw_440 (c_passDay0_12 l D y ad (up M_7 12 5 (r_ - r_ / 10 * 10)) ((show _ = M_7 12 3 from by simp [up]).trans ((s_6 12 3 rfl).trans ((hs4 12 3 rfl).trans hz.1))) 1) (List.mem_of_getElem? (i := 27) rfl) aw_441 aw_20 (by decide +kernel) ⟨by decide, by decide⟩ rfl (Nat.le_of_ble_eq_true rfl) ⟨by decide, by decide⟩ dX7_loose_77 ?_
          rintro M_9 s_8
          refine j_iinc X (v := (nI (i_4 + 1))) 0 [(2, .int (nI (i_4 + 1))), (0, .ref (ad 0)), (1, .int (nI N))] rfl (show nI i_4 + Int32.ofInt 1 = _ from nI_1 i_4) (by decide) rfl dX7_loose_80 ?_
          refine j_goto X 44 (by decide) dX7_loose_83 ?_
          refine j_lv (lv1 := [(2, .int (nI (i_4 + 1))), (0, .ref (ad 0)), (1, .int (nI N))]) [0, 1, 2] rfl ?_
          exact ih4 (i_4 + 1) _ (by omega) (by omega) (sm_tr (sm_up (sm_tr hs4 (sm_w s_6 (by intro b k hb; simp only [Bool.or_eq_false_iff, Bool.and_eq_false_iff, beq_eq_false_iff_ne, ne_eq, decide_eq_false_iff_not] at hb ⊢; omega))) rfl) (sm_w s_8 (by intro b k hb; simp only [Bool.or_eq_false_iff, Bool.and_eq_false_iff, beq_eq_false_iff_ne, ne_eq, decide_eq_false_iff_not] at hb ⊢; omega)))
    refine j_lv (lv1 := [(2, .int (nI 0)), (0, .ref (ad 0)), (1, .int (nI N))]) [0, 1, 2] rfl ?_
    exact loop4 (N + 1) 0 _ (by omega) (by omega) sm_rf
  · refine j_if_ne X 17 (by decide) dX7_loose_7 (fun c_10 => False.elim (by revert c_10; decide)) (fun c_10 => ?_)
    refine j_aload_n X 0 rfl rfl dX7_loose_10 ?_
    refine j_ldc X (v := (-1000000001)) aw_108 dX7_loose_11 ?_
    refine j_callVI X (nn := 1) (As := [.int (-1000000001)]) (st := []) (ci := 7) (by decide) (wE_7 _ rfl) rfl aw_117 aw_118 (c_X7_refuse l D y ad M (-1000000001) 1 (by decide) (by decide)) aw_116 aw_119 aw_2 (by decide +kernel) ⟨by decide, by decide⟩ rfl (Nat.le_of_ble_eq_true rfl) ⟨by decide, by decide⟩ dX7_loose_13 ?_
    rintro r_ M1_ ⟨rfl, rfl⟩
    exact j_iret X hr hlocks dX7_loose_16 ⟨(by unfold sp_loose; (repeat' split) <;> first | rfl | omega | (exfalso; omega)), (sm_up sm_rf rfl)⟩
set_option maxRecDepth 100000 in
set_option maxHeartbeats 4000000 in
theorem c0_X7_ended (l : Launch) (D : va_G) (y : wY) (ad : Nat → Nat) (M : Mem) (hz : Z0 M) (n : Int32) : MI l D y ad yX7_ended (Cond.code yX7_ended cX7_ended 2 (some .int)) 6 M [.ref (ad 0), .int n] (fun r M' => sp_ended n = r ∧ sm (fun b _ => decide (b < 79)) M M') := by
  refine MI_of (by decide) (Nat.le_of_ble_eq_true rfl) ?_
  intro p e s m args below meth c X hr hlocks
  refine j_lv (lv1 := [(0, .ref (ad 0)), (1, .int n)]) [0, 1] rfl ?_
  refine j_iload_n X 1 rfl rfl dX7_ended_0 ?_
  refine j_iconst X (v := 0) (by decide) dX7_ended_1 ?_
  refine j_bipush X (v := 60) (by decide) dX7_ended_2 ?_
  refine j_callSI X (nn := 3) (As := [.int n, .int 0, .int 60]) (st := []) aw_110 (c_X7_isWithin l D y ad M n 0 60 0 60 (by decide) (by decide)) aw_109 aw_111 aw_2 (by decide +kernel) ⟨by decide, by decide⟩ rfl (Nat.le_of_ble_eq_true rfl) ⟨by decide, by decide⟩ dX7_ended_4 ?_
  rintro r_ M1_ (⟨rfl, rfl, h_1⟩ | ⟨rfl, rfl, h_1⟩)
  · refine j_if_ne X 17 (by decide) dX7_ended_7 (fun c_2 => ?_) (fun c_2 => False.elim (by revert c_2; decide))
    obtain ⟨N, hN, rfl⟩ := nI_oft (x := n) (n := 60) (by omega) (by omega) (by decide)
    rw [nI_ti hN (by decide)] at h_1
    refine j_aload_n X 0 rfl rfl dX7_ended_17 ?_
    refine j_callVV X (nn := 0) (As := []) (st := []) (ci := 7) (by decide) (wE_7 _ rfl) rfl aw_534 aw_535 (c_think0 l D y ad M hz.1) aw_533 aw_536 aw_2 (by decide +kernel) ⟨by decide, by decide⟩ rfl (Nat.le_of_ble_eq_true rfl) ⟨by decide, by decide⟩ dX7_ended_18 ?_
    rintro M_4 ⟨s_3, s_3_3, s_3_7, s_3_8⟩
    refine j_aload_n X 0 rfl rfl dX7_ended_21 ?_
    refine j_iload_n X 1 rfl rfl dX7_ended_22 ?_
    refine j_callVV X (nn := 1) (As := [.int (nI N)]) (st := []) (ci := 7) (by decide) (wE_7 _ rfl) rfl aw_545 aw_546 (c_thinkDays0 l D y ad M_4 N (by omega) (s_3_3.trans hz.1)) aw_544 aw_547 aw_2 (by decide +kernel) ⟨by decide, by decide⟩ rfl (Nat.le_of_ble_eq_true rfl) ⟨by decide, by decide⟩ dX7_ended_23 ?_
    rintro M_6 s_5
    refine j_aload_n X 0 rfl rfl dX7_ended_26 ?_
    refine j_get X (by decide) (wE_7 _ rfl) rfl awF7 2 (by decide) aw_21 rfl (v := .ref (ad 49)) rfl dX7_ended_27 ?_
    refine j_callVNI X (nn := 0) (As := []) (st := []) (ci := 0) (by decide) (wE_0 _ rfl) rfl aw_466 aw_467 (c_setEnded0_49 l D y ad M_6 ((s_5 49 3 rfl).trans (s_3_3.trans hz.1))) (List.mem_of_getElem? (i := 35) rfl) aw_468 aw_20 (by decide +kernel) ⟨by decide, by decide⟩ rfl (Nat.le_of_ble_eq_true rfl) ⟨by decide, by decide⟩ dX7_ended_30 ?_
    rintro r_ M1_ ⟨rfl, rfl⟩
    exact j_iret X hr hlocks dX7_ended_33 ⟨(by unfold sp_ended; rw [nI_ti hN (by decide)]; (repeat' split) <;> first | rfl | omega | (exfalso; omega)), (sm_tr (sm_tr sm_rf (sm_w s_3 (by intro b k hb; simp only [Bool.or_eq_false_iff, Bool.and_eq_false_iff, beq_eq_false_iff_ne, ne_eq, decide_eq_false_iff_not] at hb ⊢; omega))) (sm_w s_5 (by intro b k hb; simp only [Bool.or_eq_false_iff, Bool.and_eq_false_iff, beq_eq_false_iff_ne, ne_eq, decide_eq_false_iff_not] at hb ⊢; omega)))⟩
  · refine j_if_ne X 17 (by decide) dX7_ended_7 (fun c_7 => False.elim (by revert c_7; decide)) (fun c_7 => ?_)
    refine j_aload_n X 0 rfl rfl dX7_ended_10 ?_
    refine j_ldc X (v := (-1000000001)) aw_108 dX7_ended_11 ?_
    refine j_callVI X (nn := 1) (As := [.int (-1000000001)]) (st := []) (ci := 7) (by decide) (wE_7 _ rfl) rfl aw_117 aw_118 (c_X7_refuse l D y ad M (-1000000001) 1 (by decide) (by decide)) aw_116 aw_119 aw_2 (by decide +kernel) ⟨by decide, by decide⟩ rfl (Nat.le_of_ble_eq_true rfl) ⟨by decide, by decide⟩ dX7_ended_13 ?_
    rintro r_ M1_ ⟨rfl, rfl⟩
    exact j_iret X hr hlocks dX7_ended_16 ⟨(by unfold sp_ended; (repeat' split) <;> first | rfl | omega | (exfalso; omega)), (sm_up sm_rf rfl)⟩
set_option maxRecDepth 100000 in
set_option maxHeartbeats 4000000 in
theorem c0_X7_fee (l : Launch) (D : va_G) (y : wY) (ad : Nat → Nat) (M : Mem) (hz : Z0 M) (n : Int32) : MI l D y ad yX7_fee (Cond.code yX7_fee cX7_fee 2 (some .int)) 6 M [.ref (ad 0), .int n] (fun r M' => sp_fee n = r ∧ sm (fun b _ => decide (b < 79)) M M') := by
  refine MI_of (by decide) (Nat.le_of_ble_eq_true rfl) ?_
  intro p e s m args below meth c X hr hlocks
  refine j_lv (lv1 := [(0, .ref (ad 0)), (1, .int n)]) [0, 1] rfl ?_
  refine j_iload_n X 1 rfl rfl dX7_fee_0 ?_
  refine j_iconst X (v := 0) (by decide) dX7_fee_1 ?_
  refine j_bipush X (v := 60) (by decide) dX7_fee_2 ?_
  refine j_callSI X (nn := 3) (As := [.int n, .int 0, .int 60]) (st := []) aw_110 (c_X7_isWithin l D y ad M n 0 60 0 60 (by decide) (by decide)) aw_109 aw_111 aw_2 (by decide +kernel) ⟨by decide, by decide⟩ rfl (Nat.le_of_ble_eq_true rfl) ⟨by decide, by decide⟩ dX7_fee_4 ?_
  rintro r_ M1_ (⟨rfl, rfl, h_1⟩ | ⟨rfl, rfl, h_1⟩)
  · refine j_if_ne X 17 (by decide) dX7_fee_7 (fun c_2 => ?_) (fun c_2 => False.elim (by revert c_2; decide))
    obtain ⟨N, hN, rfl⟩ := nI_oft (x := n) (n := 60) (by omega) (by omega) (by decide)
    rw [nI_ti hN (by decide)] at h_1
    refine j_aload_n X 0 rfl rfl dX7_fee_17 ?_
    refine j_callVV X (nn := 0) (As := []) (st := []) (ci := 7) (by decide) (wE_7 _ rfl) rfl aw_534 aw_535 (c_think0 l D y ad M hz.1) aw_533 aw_536 aw_2 (by decide +kernel) ⟨by decide, by decide⟩ rfl (Nat.le_of_ble_eq_true rfl) ⟨by decide, by decide⟩ dX7_fee_18 ?_
    rintro M_4 ⟨s_3, s_3_3, s_3_7, s_3_8⟩
    refine j_aload_n X 0 rfl rfl dX7_fee_21 ?_
    refine j_iload_n X 1 rfl rfl dX7_fee_22 ?_
    refine j_callVV X (nn := 1) (As := [.int (nI N)]) (st := []) (ci := 7) (by decide) (wE_7 _ rfl) rfl aw_545 aw_546 (c_thinkDays0 l D y ad M_4 N (by omega) (s_3_3.trans hz.1)) aw_544 aw_547 aw_2 (by decide +kernel) ⟨by decide, by decide⟩ rfl (Nat.le_of_ble_eq_true rfl) ⟨by decide, by decide⟩ dX7_fee_23 ?_
    rintro M_6 s_5
    refine j_aload_n X 0 rfl rfl dX7_fee_26 ?_
    refine j_get X (by decide) (wE_7 _ rfl) rfl awF7 2 (by decide) aw_21 rfl (v := .ref (ad 49)) rfl dX7_fee_27 ?_
    refine j_getN X (by decide) (wE_0 _ rfl) rfl awF0 8 (by decide) (List.mem_of_getElem? (i := 20) rfl) rfl (v := .int (M_6 49 8)) rfl dX7_fee_30 ?_
    refine j_eqi (v := 0) ((s_5 49 8 rfl).trans (s_3_8.trans hz.2.2.2.2.2.1)) ?_
    refine j_aload_n X 0 rfl rfl dX7_fee_33 ?_
    refine j_get X (by decide) (wE_7 _ rfl) rfl awF7 0 (by decide) aw_16 rfl (v := .ref (ad 1)) rfl dX7_fee_34 ?_
    refine j_getN X (by decide) (wE_6 _ rfl) rfl awF6 2 (by decide) (List.mem_of_getElem? (i := 23) rfl) rfl (v := .ref (ad 12)) rfl dX7_fee_37 ?_
    refine j_getN X (by decide) (wE_0 _ rfl) rfl awF0 8 (by decide) (List.mem_of_getElem? (i := 20) rfl) rfl (v := .int (M_6 12 8)) rfl dX7_fee_40 ?_
    refine j_eqi (v := 0) ((s_5 12 8 rfl).trans ((s_3 12 8 rfl).trans hz.2.2.2.2.2.1)) ?_
    refine j_isub X dX7_fee_43 ?_
    refine j_eqi (v := 0) (by decide) ?_
    exact j_iret X hr hlocks dX7_fee_44 ⟨(by unfold sp_fee; rw [nI_ti hN (by decide)]; (repeat' split) <;> first | rfl | omega | (exfalso; omega)), (sm_tr (sm_tr sm_rf (sm_w s_3 (by intro b k hb; simp only [Bool.or_eq_false_iff, Bool.and_eq_false_iff, beq_eq_false_iff_ne, ne_eq, decide_eq_false_iff_not] at hb ⊢; omega))) (sm_w s_5 (by intro b k hb; simp only [Bool.or_eq_false_iff, Bool.and_eq_false_iff, beq_eq_false_iff_ne, ne_eq, decide_eq_false_iff_not] at hb ⊢; omega)))⟩
  · refine j_if_ne X 17 (by decide) dX7_fee_7 (fun c_7 => False.elim (by revert c_7; decide)) (fun c_7 => ?_)
    refine j_aload_n X 0 rfl rfl dX7_fee_10 ?_
    refine j_ldc X (v := (-1000000001)) aw_108 dX7_fee_11 ?_
    refine j_callVI X (nn := 1) (As := [.int (-1000000001)]) (st := []) (ci := 7) (by decide) (wE_7 _ rfl) rfl aw_117 aw_118 (c_X7_refuse l D y ad M (-1000000001) 1 (by decide) (by decide)) aw_116 aw_119 aw_2 (by decide +kernel) ⟨by decide, by decide⟩ rfl (Nat.le_of_ble_eq_true rfl) ⟨by decide, by decide⟩ dX7_fee_13 ?_
    rintro r_ M1_ ⟨rfl, rfl⟩
    exact j_iret X hr hlocks dX7_fee_16 ⟨(by unfold sp_fee; (repeat' split) <;> first | rfl | omega | (exfalso; omega)), (sm_up sm_rf rfl)⟩
set_option maxRecDepth 100000 in
set_option maxHeartbeats 4000000 in
theorem c0_X7_free (l : Launch) (D : va_G) (y : wY) (ad : Nat → Nat) (M : Mem) (hz : Z0 M) : MI l D y ad yX7_free (Cond.code yX7_free cX7_free 1 (some .int)) 6 M [.ref (ad 0)] (fun r M' => sp_free = r ∧ sm (fun b _ => decide (b < 79)) M M') := by
  refine MI_of (by decide) (Nat.le_of_ble_eq_true rfl) ?_
  intro p e s m args below meth c X hr hlocks
  refine j_lv (lv1 := [(0, .ref (ad 0))]) [0] rfl ?_
  refine j_aload_n X 0 rfl rfl dX7_free_0 ?_
  refine j_get X (by decide) (wE_7 _ rfl) rfl awF7 0 (by decide) aw_16 rfl (v := .ref (ad 1)) rfl dX7_free_1 ?_
  refine j_getN X (by decide) (wE_6 _ rfl) rfl awF6 2 (by decide) (List.mem_of_getElem? (i := 23) rfl) rfl (v := .ref (ad 12)) rfl dX7_free_4 ?_
  refine j_callVNI X (nn := 0) (As := []) (st := []) (ci := 0) (by decide) (wE_0 _ rfl) rfl aw_709 aw_710 (c_setFree0_12 l D y ad M hz.1) (List.mem_of_getElem? (i := 42) rfl) aw_711 aw_20 (by decide +kernel) ⟨by decide, by decide⟩ rfl (Nat.le_of_ble_eq_true rfl) ⟨by decide, by decide⟩ dX7_free_7 ?_
  rintro r_ M1_ ⟨rfl, rfl⟩
  exact j_iret X hr hlocks dX7_free_10 ⟨(by unfold sp_free; (repeat' split) <;> first | rfl | omega | (exfalso; omega)), sm_rf⟩
set_option maxRecDepth 100000 in
set_option maxHeartbeats 4000000 in
theorem c0_X7_off (l : Launch) (D : va_G) (y : wY) (ad : Nat → Nat) (M : Mem) (hz : Z0 M) (n : Int32) : MI l D y ad yX7_off (Cond.code yX7_off cX7_off 3 (some .int)) 6 M [.ref (ad 0), .int n] (fun r M' => sp_off n = r ∧ sm (fun b _ => decide (b < 79)) M M') := by
  refine MI_of (by decide) (Nat.le_of_ble_eq_true rfl) ?_
  intro p e s m args below meth c X hr hlocks
  refine j_lv (lv1 := [(0, .ref (ad 0)), (1, .int n)]) [0, 1] rfl ?_
  refine j_iload_n X 1 rfl rfl dX7_off_0 ?_
  refine j_iconst X (v := 0) (by decide) dX7_off_1 ?_
  refine j_bipush X (v := 60) (by decide) dX7_off_2 ?_
  refine j_callSI X (nn := 3) (As := [.int n, .int 0, .int 60]) (st := []) aw_110 (c_X7_isWithin l D y ad M n 0 60 0 60 (by decide) (by decide)) aw_109 aw_111 aw_2 (by decide +kernel) ⟨by decide, by decide⟩ rfl (Nat.le_of_ble_eq_true rfl) ⟨by decide, by decide⟩ dX7_off_4 ?_
  rintro r_ M1_ (⟨rfl, rfl, h_1⟩ | ⟨rfl, rfl, h_1⟩)
  · refine j_if_ne X 17 (by decide) dX7_off_7 (fun c_2 => ?_) (fun c_2 => False.elim (by revert c_2; decide))
    obtain ⟨N, hN, rfl⟩ := nI_oft (x := n) (n := 60) (by omega) (by omega) (by decide)
    rw [nI_ti hN (by decide)] at h_1
    refine j_aload_n X 0 rfl rfl dX7_off_17 ?_
    refine j_callVV X (nn := 0) (As := []) (st := []) (ci := 7) (by decide) (wE_7 _ rfl) rfl aw_534 aw_535 (c_think0 l D y ad M hz.1) aw_533 aw_536 aw_2 (by decide +kernel) ⟨by decide, by decide⟩ rfl (Nat.le_of_ble_eq_true rfl) ⟨by decide, by decide⟩ dX7_off_18 ?_
    rintro M_4 ⟨s_3, s_3_3, s_3_7, s_3_8⟩
    refine j_aload_n X 0 rfl rfl dX7_off_21 ?_
    refine j_iload_n X 1 rfl rfl dX7_off_22 ?_
    refine j_callVV X (nn := 1) (As := [.int (nI N)]) (st := []) (ci := 7) (by decide) (wE_7 _ rfl) rfl aw_626 aw_627 (c_thinkDaysWithHarm0 l D y ad M_4 N (by omega) (s_3_3.trans hz.1)) aw_625 aw_628 aw_2 (by decide +kernel) ⟨by decide, by decide⟩ rfl (Nat.le_of_ble_eq_true rfl) ⟨by decide, by decide⟩ dX7_off_23 ?_
    rintro M_6 s_5
    refine j_aload_n X 0 rfl rfl dX7_off_26 ?_
    refine j_get X (by decide) (wE_7 _ rfl) rfl awF7 2 (by decide) aw_21 rfl (v := .ref (ad 49)) rfl dX7_off_27 ?_
    refine j_getN X (by decide) (wE_0 _ rfl) rfl awF0 7 (by decide) (List.mem_of_getElem? (i := 19) rfl) rfl (v := .int (M_6 49 7)) rfl dX7_off_30 ?_
    refine j_eqi (v := 0) ((s_5 49 7 rfl).trans (s_3_7.trans hz.2.2.2.2.1)) ?_
    refine j_istore_n X [(2, .int 0), (0, .ref (ad 0)), (1, .int (nI N))] rfl (by decide) rfl dX7_off_33 ?_
    refine j_aload_n X 1 rfl rfl dX7_off_34 ?_
    refine j_callVV X (nn := 0) (As := []) (st := []) (ci := 7) (by decide) (wE_7 _ rfl) rfl aw_534 aw_535 (c_think0 l D y ad M_6 ((s_5 12 3 rfl).trans ((s_3 12 3 rfl).trans hz.1))) aw_533 aw_536 aw_2 (by decide +kernel) ⟨by decide, by decide⟩ rfl (Nat.le_of_ble_eq_true rfl) ⟨by decide, by decide⟩ dX7_off_35 ?_
    rintro M_8 ⟨s_7, s_7_3, s_7_7, s_7_8⟩
    rcases N with _ | N
    · refine j_iload_n X 2 rfl rfl dX7_off_38 ?_
      refine j_if_le X 57 (by decide) dX7_off_39 (fun c_9 => ?_) (fun c_9 => False.elim (by revert c_9; decide))
      refine j_aload_n X 1 rfl rfl dX7_off_57 ?_
      refine j_get X (by decide) (wE_7 _ rfl) rfl awF7 2 (by decide) aw_21 rfl (v := .ref (ad 49)) rfl dX7_off_58 ?_
      refine j_getN X (by decide) (wE_0 _ rfl) rfl awF0 7 (by decide) (List.mem_of_getElem? (i := 19) rfl) rfl (v := .int (M_8 49 7)) rfl dX7_off_61 ?_
      refine j_eqi (v := 0) (s_7_7.trans ((s_5 12 7 rfl).trans ((s_3 12 7 rfl).trans hz.2.2.2.2.1))) ?_
      refine j_iload_n X 0 rfl rfl dX7_off_64 ?_
      refine j_isub X dX7_off_65 ?_
      refine j_eqi (v := 0) (by decide) ?_
      exact j_iret X hr hlocks dX7_off_66 ⟨(by unfold sp_off; rw [nI_ti hN (by decide)]; (repeat' split) <;> first | rfl | omega | (exfalso; omega)), (sm_tr (sm_tr (sm_tr sm_rf (sm_w s_3 (by intro b k hb; simp only [Bool.or_eq_false_iff, Bool.and_eq_false_iff, beq_eq_false_iff_ne, ne_eq, decide_eq_false_iff_not] at hb ⊢; omega))) (sm_w s_5 (by intro b k hb; simp only [Bool.or_eq_false_iff, Bool.and_eq_false_iff, beq_eq_false_iff_ne, ne_eq, decide_eq_false_iff_not] at hb ⊢; omega))) (sm_w s_7 (by intro b k hb; simp only [Bool.or_eq_false_iff, Bool.and_eq_false_iff, beq_eq_false_iff_ne, ne_eq, decide_eq_false_iff_not] at hb ⊢; omega)))⟩
    · refine j_iload_n X 2 rfl rfl dX7_off_38 ?_
      refine j_if_le X 57 (by decide) dX7_off_39 (fun c_10 => False.elim (nI_nle (by omega) (by omega) c_10)) (fun c_10 => ?_)
      refine j_aload_n X 1 rfl rfl dX7_off_42 ?_
      refine j_get X (by decide) (wE_7 _ rfl) rfl awF7 2 (by decide) aw_21 rfl (v := .ref (ad 49)) rfl dX7_off_43 ?_
      refine j_iconst X (v := 1) (by decide) dX7_off_46 ?_
      refine j_callVNV X (nn := 1) (As := [.int 1]) (st := []) (ci := 0) (by decide) (wE_0 _ rfl) rfl aw_450 aw_451 (c_restDay0_49 l D y ad M_8 (s_7_3.trans ((s_5 12 3 rfl).trans ((s_3 12 3 rfl).trans hz.1))) 1) (List.mem_of_getElem? (i := 40) rfl) aw_452 aw_20 (by decide +kernel) ⟨by decide, by decide⟩ rfl (Nat.le_of_ble_eq_true rfl) ⟨by decide, by decide⟩ dX7_off_47 ?_
      rintro M_12 s_11
      refine j_aload_n X 1 rfl rfl dX7_off_50 ?_
      refine j_iload_n X 2 rfl rfl dX7_off_51 ?_
      refine j_iconst X (v := 1) (by decide) dX7_off_52 ?_
      refine j_isub X dX7_off_53 ?_
      refine j_eqi (v := nI N) (nI_pred N) ?_
      refine j_callVV X (nn := 1) (As := [.int (nI N)]) (st := []) (ci := 7) (by decide) (wE_7 _ rfl) rfl aw_626 aw_627 (c_thinkDaysWithHarm0 l D y ad M_12 N (by omega) ((s_11 49 3 rfl).trans (s_7_3.trans ((s_5 12 3 rfl).trans ((s_3 12 3 rfl).trans hz.1))))) aw_625 aw_628 aw_2 (by decide +kernel) ⟨by decide, by decide⟩ rfl (Nat.le_of_ble_eq_true rfl) ⟨by decide, by decide⟩ dX7_off_54 ?_
      rintro M_14 s_13
      refine j_aload_n X 1 rfl rfl dX7_off_57 ?_
      refine j_get X (by decide) (wE_7 _ rfl) rfl awF7 2 (by decide) aw_21 rfl (v := .ref (ad 49)) rfl dX7_off_58 ?_
      refine j_getN X (by decide) (wE_0 _ rfl) rfl awF0 7 (by decide) (List.mem_of_getElem? (i := 19) rfl) rfl (v := .int (M_14 49 7)) rfl dX7_off_61 ?_
      refine j_eqi (v := 0) ((s_13 49 7 rfl).trans ((s_11 49 7 rfl).trans (s_7_7.trans ((s_5 12 7 rfl).trans ((s_3 12 7 rfl).trans hz.2.2.2.2.1))))) ?_
      refine j_iload_n X 0 rfl rfl dX7_off_64 ?_
      refine j_isub X dX7_off_65 ?_
      refine j_eqi (v := 0) (by decide) ?_
      exact j_iret X hr hlocks dX7_off_66 ⟨(by unfold sp_off; rw [nI_ti hN (by decide)]; (repeat' split) <;> first | rfl | omega | (exfalso; omega)), (sm_tr (sm_tr (sm_tr (sm_tr (sm_tr sm_rf (sm_w s_3 (by intro b k hb; simp only [Bool.or_eq_false_iff, Bool.and_eq_false_iff, beq_eq_false_iff_ne, ne_eq, decide_eq_false_iff_not] at hb ⊢; omega))) (sm_w s_5 (by intro b k hb; simp only [Bool.or_eq_false_iff, Bool.and_eq_false_iff, beq_eq_false_iff_ne, ne_eq, decide_eq_false_iff_not] at hb ⊢; omega))) (sm_w s_7 (by intro b k hb; simp only [Bool.or_eq_false_iff, Bool.and_eq_false_iff, beq_eq_false_iff_ne, ne_eq, decide_eq_false_iff_not] at hb ⊢; omega))) (sm_w s_11 (by intro b k hb; simp only [Bool.or_eq_false_iff, Bool.and_eq_false_iff, beq_eq_false_iff_ne, ne_eq, decide_eq_false_iff_not] at hb ⊢; omega))) (sm_w s_13 (by intro b k hb; simp only [Bool.or_eq_false_iff, Bool.and_eq_false_iff, beq_eq_false_iff_ne, ne_eq, decide_eq_false_iff_not] at hb ⊢; omega)))⟩
  · refine j_if_ne X 17 (by decide) dX7_off_7 (fun c_15 => False.elim (by revert c_15; decide)) (fun c_15 => ?_)
    refine j_aload_n X 0 rfl rfl dX7_off_10 ?_
    refine j_ldc X (v := (-1000000001)) aw_108 dX7_off_11 ?_
    refine j_callVI X (nn := 1) (As := [.int (-1000000001)]) (st := []) (ci := 7) (by decide) (wE_7 _ rfl) rfl aw_117 aw_118 (c_X7_refuse l D y ad M (-1000000001) 1 (by decide) (by decide)) aw_116 aw_119 aw_2 (by decide +kernel) ⟨by decide, by decide⟩ rfl (Nat.le_of_ble_eq_true rfl) ⟨by decide, by decide⟩ dX7_off_13 ?_
    rintro r_ M1_ ⟨rfl, rfl⟩
    exact j_iret X hr hlocks dX7_off_16 ⟨(by unfold sp_off; (repeat' split) <;> first | rfl | omega | (exfalso; omega)), (sm_up sm_rf rfl)⟩
set_option maxRecDepth 100000 in
set_option maxHeartbeats 4000000 in
theorem c0_X7_start (l : Launch) (D : va_G) (y : wY) (ad : Nat → Nat) (M : Mem) (hz : Z0 M) (n what : Int32) : MI l D y ad yX7_start (Cond.code yX7_start cX7_start 6 (some .int)) 6 M [.ref (ad 0), .int n, .int what] (fun r M' => sp_start n what = r ∧ sm (fun b _ => decide (b < 79)) M M') := by
  refine MI_of (by decide) (Nat.le_of_ble_eq_true rfl) ?_
  intro p e s m args below meth c X hr hlocks
  refine j_lv (lv1 := [(0, .ref (ad 0)), (1, .int n), (2, .int what)]) [0, 1, 2] rfl ?_
  refine j_iload_n X 1 rfl rfl dX7_start_0 ?_
  refine j_iconst X (v := 0) (by decide) dX7_start_1 ?_
  refine j_bipush X (v := 60) (by decide) dX7_start_2 ?_
  refine j_callSI X (nn := 3) (As := [.int n, .int 0, .int 60]) (st := []) aw_110 (c_X7_isWithin l D y ad M n 0 60 0 60 (by decide) (by decide)) aw_109 aw_111 aw_2 (by decide +kernel) ⟨by decide, by decide⟩ rfl (Nat.le_of_ble_eq_true rfl) ⟨by decide, by decide⟩ dX7_start_4 ?_
  rintro r_ M1_ (⟨rfl, rfl, h_1⟩ | ⟨rfl, rfl, h_1⟩)
  · refine j_if_eq X 19 (by decide) dX7_start_7 (fun c_2 => False.elim (by revert c_2; decide)) (fun c_2 => ?_)
    refine j_iload_n X 2 rfl rfl dX7_start_10 ?_
    refine j_iconst X (v := 0) (by decide) dX7_start_11 ?_
    refine j_iconst X (v := 1) (by decide) dX7_start_12 ?_
    refine j_callSI X (nn := 3) (As := [.int what, .int 0, .int 1]) (st := []) aw_110 (c_X7_isWithin l D y ad M what 0 1 0 1 (by decide) (by decide)) aw_109 aw_111 aw_2 (by decide +kernel) ⟨by decide, by decide⟩ rfl (Nat.le_of_ble_eq_true rfl) ⟨by decide, by decide⟩ dX7_start_13 ?_
    rintro r_ M1_ (⟨rfl, rfl, h_3⟩ | ⟨rfl, rfl, h_3⟩)
    · refine j_if_ne X 26 (by decide) dX7_start_16 (fun c_4 => ?_) (fun c_4 => False.elim (by revert c_4; decide))
      obtain ⟨N, hN, rfl⟩ := nI_oft (x := n) (n := 60) (by omega) (by omega) (by decide)
      rw [nI_ti hN (by decide)] at h_1
      refine j_iconst X (v := 0) (by decide) dX7_start_26 ?_
      refine j_istore_n X [(3, .int 0), (0, .ref (ad 0)), (1, .int (nI N)), (2, .int what)] rfl (by decide) rfl dX7_start_27 ?_
      refine j_iconst X (v := (-1)) (by decide) dX7_start_28 ?_
      refine j_istore X [(4, .int (-1)), (3, .int 0), (0, .ref (ad 0)), (1, .int (nI N)), (2, .int what)] (by decide) rfl dX7_start_29 ?_
      refine j_iconst X (v := 0) (by decide) dX7_start_31 ?_
      refine j_istore X [(5, .int 0), (4, .int (-1)), (3, .int 0), (0, .ref (ad 0)), (1, .int (nI N)), (2, .int what)] (by decide) rfl dX7_start_32 ?_
      refine j_iload X 0 rfl dX7_start_34 ?_
      refine j_bipush X (v := 10) (by decide) dX7_start_36 ?_
      refine j_icmp_ge X 89 (by decide) dX7_start_38 (fun c_5 => False.elim (by revert c_5; decide)) (fun c_5 => ?_)
      refine j_aload_n X 3 rfl rfl dX7_start_41 ?_
      refine j_callVV X (nn := 0) (As := []) (st := []) (ci := 7) (by decide) (wE_7 _ rfl) rfl aw_534 aw_535 (c_think0 l D y ad M hz.1) aw_533 aw_536 aw_2 (by decide +kernel) ⟨by decide, by decide⟩ rfl (Nat.le_of_ble_eq_true rfl) ⟨by decide, by decide⟩ dX7_start_42 ?_
      rintro M_7 ⟨s_6, s_6_3, s_6_7, s_6_8⟩
      refine j_aload_n X 3 rfl rfl dX7_start_45 ?_
      refine j_get X (by decide) (wE_7 _ rfl) rfl awF7 2 (by decide) aw_21 rfl (v := .ref (ad 49)) rfl dX7_start_46 ?_
      refine j_iload X 0 rfl dX7_start_49 ?_
      refine j_putN X (up M_7 49 4 0) up_o (by decide) (wE_0 _ rfl) rfl awF0 4 (by decide) (wP_0_4 _ _ rfl) tyX0 tyX0_ok nmX0 rfl (ty := .int) (by decide +kernel) rfl rfl (Nat.le_of_ble_eq_true rfl) (List.mem_of_getElem? (i := 16) rfl) rfl dX7_start_51 ?_
      refine j_aload_n X 3 rfl rfl dX7_start_54 ?_
      refine j_iload_n X 4 rfl rfl dX7_start_55 ?_
      refine j_callVV X (nn := 1) (As := [.int (nI N)]) (st := []) (ci := 7) (by decide) (wE_7 _ rfl) rfl aw_545 aw_546 (c_thinkDays0 l D y ad (up M_7 49 4 0) N (by omega) ((show _ = M_7 49 3 from by simp [up]).trans (s_6_3.trans hz.1))) aw_544 aw_547 aw_2 (by decide +kernel) ⟨by decide, by decide⟩ rfl (Nat.le_of_ble_eq_true rfl) ⟨by decide, by decide⟩ dX7_start_56 ?_
      rintro M_9 s_8
      refine j_aload_n X 3 rfl rfl dX7_start_59 ?_
      refine j_get X (by decide) (wE_7 _ rfl) rfl awF7 2 (by decide) aw_21 rfl (v := .ref (ad 49)) rfl dX7_start_60 ?_
      refine j_callVNI X (nn := 0) (As := []) (st := []) (ci := 0) (by decide) (wE_0 _ rfl) rfl aw_462 aw_463 (c_endedMany0_49 l D y ad M_9 ((s_8 49 3 rfl).trans ((show _ = M_7 49 3 from by simp [up]).trans (s_6_3.trans hz.1)))) (List.mem_of_getElem? (i := 31) rfl) aw_464 aw_20 (by decide +kernel) ⟨by decide, by decide⟩ rfl (Nat.le_of_ble_eq_true rfl) ⟨by decide, by decide⟩ dX7_start_63 ?_
      rintro r_ M1_ ⟨rfl, rfl⟩
      refine j_iload X 1 rfl dX7_start_66 ?_
      refine j_icmp_le X 83 (by decide) dX7_start_68 (fun c_10 => False.elim (by revert c_10; decide)) (fun c_10 => ?_)
      refine j_iload X 0 rfl dX7_start_71 ?_
      refine j_istore_n X [(3, .int 0), (5, .int 0), (4, .int (-1)), (0, .ref (ad 0)), (1, .int (nI N)), (2, .int what)] rfl (by decide) rfl dX7_start_73 ?_
      refine j_aload_n X 3 rfl rfl dX7_start_74 ?_
      refine j_get X (by decide) (wE_7 _ rfl) rfl awF7 2 (by decide) aw_21 rfl (v := .ref (ad 49)) rfl dX7_start_75 ?_
      refine j_callVNI X (nn := 0) (As := []) (st := []) (ci := 0) (by decide) (wE_0 _ rfl) rfl aw_462 aw_463 (c_endedMany0_49 l D y ad M_9 ((s_8 49 3 rfl).trans ((show _ = M_7 49 3 from by simp [up]).trans (s_6_3.trans hz.1)))) (List.mem_of_getElem? (i := 31) rfl) aw_464 aw_20 (by decide +kernel) ⟨by decide, by decide⟩ rfl (Nat.le_of_ble_eq_true rfl) ⟨by decide, by decide⟩ dX7_start_78 ?_
      rintro r_ M1_ ⟨rfl, rfl⟩
      refine j_istore X [(4, .int 0), (3, .int 0), (5, .int 0), (0, .ref (ad 0)), (1, .int (nI N)), (2, .int what)] (by decide) rfl dX7_start_81 ?_
      refine j_iinc X (v := 1) 2 [(5, .int 1), (4, .int 0), (3, .int 0), (0, .ref (ad 0)), (1, .int (nI N)), (2, .int what)] rfl (by decide) (by decide) rfl dX7_start_83 ?_
      refine j_goto X 34 (by decide) dX7_start_86 ?_
      have loop11 : ∀ (n_11 i_11 : Nat) (M11 : Mem), i_11 ≤ 10 → 10 - i_11 < n_11 → sm (fun b _ => b == 49) M_9 M11 → J p l e (rmN 6) s m args below meth c 0 0 (QI (fun r M' => sp_start (nI N) what = r ∧ sm (fun b _ => decide (b < 79)) M M') D y ad M s args below) D y ad (va_A (PL y ad M) s.heap.size) 6 M11 34 [(5, .int (nI i_11)), (0, .ref (ad 0)), (1, .int (nI N)), (2, .int what), (3, .int 0), (4, .int 0)] [] := by
        intro n_11
        induction n_11 with
        | zero => intro i_11 M11 h1 h2; exact absurd h2 (by omega)
        | succ n_11 ih11 =>
          intro i_11 M11 h1i_11 h2i_11 hs11
          refine j_iload X 0 rfl dX7_start_34 ?_
          refine j_bipush X (v := 10) (by decide) dX7_start_36 ?_
          refine j_icmp_ge X 89 (by decide) dX7_start_38 (fun c_12 => ?_) (fun c_12 => ?_)
          · have c_12 := (nI_leI (by omega) (by omega)).mp (show nI (10) ≤ nI i_11 from c_12)
            refine j_iload_n X 3 rfl rfl dX7_start_89 ?_
            refine j_if_ne X 97 (by decide) dX7_start_90 (fun c_13 => ?_) (fun c_13 => ?_)
            · have qc_13 := ti_ne (n := 0) (by decide) c_13
              refine j_iload X 5 rfl dX7_start_97 ?_
              exact j_iret X hr hlocks dX7_start_99 ⟨(by unfold sp_start; rw [nI_ti hN (by decide)]; (repeat' split) <;> first | rfl | omega | (exfalso; omega)), (sm_tr (sm_tr (sm_up (sm_tr sm_rf (sm_w s_6 (by intro b k hb; simp only [Bool.or_eq_false_iff, Bool.and_eq_false_iff, beq_eq_false_iff_ne, ne_eq, decide_eq_false_iff_not] at hb ⊢; omega))) rfl) (sm_w s_8 (by intro b k hb; simp only [Bool.or_eq_false_iff, Bool.and_eq_false_iff, beq_eq_false_iff_ne, ne_eq, decide_eq_false_iff_not] at hb ⊢; omega))) (sm_w hs11 (by intro b k hb; simp only [Bool.or_eq_false_iff, Bool.and_eq_false_iff, beq_eq_false_iff_ne, ne_eq, decide_eq_false_iff_not] at hb ⊢; omega)))⟩
            · have qc_13 := ti_eq (n := 0) (by decide) c_13
              refine j_iload_n X 4 rfl rfl dX7_start_93 ?_
              refine j_goto X 99 (by decide) dX7_start_94 ?_
              exact j_iret X hr hlocks dX7_start_99 ⟨(by unfold sp_start; rw [nI_ti hN (by decide)]; (repeat' split) <;> first | rfl | omega | (exfalso; omega)), (sm_tr (sm_tr (sm_up (sm_tr sm_rf (sm_w s_6 (by intro b k hb; simp only [Bool.or_eq_false_iff, Bool.and_eq_false_iff, beq_eq_false_iff_ne, ne_eq, decide_eq_false_iff_not] at hb ⊢; omega))) rfl) (sm_w s_8 (by intro b k hb; simp only [Bool.or_eq_false_iff, Bool.and_eq_false_iff, beq_eq_false_iff_ne, ne_eq, decide_eq_false_iff_not] at hb ⊢; omega))) (sm_w hs11 (by intro b k hb; simp only [Bool.or_eq_false_iff, Bool.and_eq_false_iff, beq_eq_false_iff_ne, ne_eq, decide_eq_false_iff_not] at hb ⊢; omega)))⟩
          · have c_12 : i_11 < 10 := by
              rcases Nat.lt_or_ge i_11 (10) with g | g
              · exact g
              · exact absurd (show nI (10) ≤ nI i_11 from nI_le g (by omega)) c_12
            refine j_aload_n X 1 rfl rfl dX7_start_41 ?_
            refine j_callVV X (nn := 0) (As := []) (st := []) (ci := 7) (by decide) (wE_7 _ rfl) rfl aw_534 aw_535 (c_think0 l D y ad M11 ((hs11 12 3 rfl).trans ((s_8 12 3 rfl).trans ((show _ = M_7 12 3 from by simp [up]).trans ((s_6 12 3 rfl).trans hz.1))))) aw_533 aw_536 aw_2 (by decide +kernel) ⟨by decide, by decide⟩ rfl (Nat.le_of_ble_eq_true rfl) ⟨by decide, by decide⟩ dX7_start_42 ?_
            rintro M_15 ⟨s_14, s_14_3, s_14_7, s_14_8⟩
            refine j_aload_n X 1 rfl rfl dX7_start_45 ?_
            refine j_get X (by decide) (wE_7 _ rfl) rfl awF7 2 (by decide) aw_21 rfl (v := .ref (ad 49)) rfl dX7_start_46 ?_
            refine j_iload X 0 rfl dX7_start_49 ?_
            refine j_putN X (up M_15 49 4 (nI i_11)) up_o (by decide) (wE_0 _ rfl) rfl awF0 4 (by decide) (wP_0_4 _ _ rfl) tyX0 tyX0_ok nmX0 rfl (ty := .int) (by decide +kernel) rfl rfl (Nat.le_of_ble_eq_true rfl) (List.mem_of_getElem? (i := 16) rfl) rfl dX7_start_51 ?_
            refine j_aload_n X 1 rfl rfl dX7_start_54 ?_
            refine j_iload_n X 2 rfl rfl dX7_start_55 ?_
            refine j_callVV X (nn := 1) (As := [.int (nI N)]) (st := []) (ci := 7) (by decide) (wE_7 _ rfl) rfl aw_545 aw_546 (c_thinkDays0 l D y ad (up M_15 49 4 (nI i_11)) N (by omega) ((show _ = M_15 49 3 from by simp [up]).trans (s_14_3.trans ((hs11 12 3 rfl).trans ((s_8 12 3 rfl).trans ((show _ = M_7 12 3 from by simp [up]).trans ((s_6 12 3 rfl).trans hz.1))))))) aw_544 aw_547 aw_2 (by decide +kernel) ⟨by decide, by decide⟩ rfl (Nat.le_of_ble_eq_true rfl) ⟨by decide, by decide⟩ dX7_start_56 ?_
            rintro M_17 s_16
            refine j_aload_n X 1 rfl rfl dX7_start_59 ?_
            refine j_get X (by decide) (wE_7 _ rfl) rfl awF7 2 (by decide) aw_21 rfl (v := .ref (ad 49)) rfl dX7_start_60 ?_
            refine j_callVNI X (nn := 0) (As := []) (st := []) (ci := 0) (by decide) (wE_0 _ rfl) rfl aw_462 aw_463 (c_endedMany0_49 l D y ad M_17 ((s_16 49 3 rfl).trans ((show _ = M_15 49 3 from by simp [up]).trans (s_14_3.trans ((hs11 12 3 rfl).trans ((s_8 12 3 rfl).trans ((show _ = M_7 12 3 from by simp [up]).trans ((s_6 12 3 rfl).trans hz.1)))))))) (List.mem_of_getElem? (i := 31) rfl) aw_464 aw_20 (by decide +kernel) ⟨by decide, by decide⟩ rfl (Nat.le_of_ble_eq_true rfl) ⟨by decide, by decide⟩ dX7_start_63 ?_
            rintro r_ M1_ ⟨rfl, rfl⟩
            refine j_iload X 5 rfl dX7_start_66 ?_
            refine j_icmp_le X 83 (by decide) dX7_start_68 (fun c_18 => ?_) (fun c_18 => False.elim (by revert c_18; decide))
            refine j_iinc X (v := (nI (i_11 + 1))) 0 [(5, .int (nI (i_11 + 1))), (0, .ref (ad 0)), (1, .int (nI N)), (2, .int what), (3, .int 0), (4, .int 0)] rfl (show nI i_11 + Int32.ofInt 1 = _ from nI_1 i_11) (by decide) rfl dX7_start_83 ?_
            refine j_goto X 34 (by decide) dX7_start_86 ?_
            refine j_lv (lv1 := [(5, .int (nI (i_11 + 1))), (0, .ref (ad 0)), (1, .int (nI N)), (2, .int what), (3, .int 0), (4, .int 0)]) [0, 1, 2, 3, 4, 5] rfl ?_
            exact ih11 (i_11 + 1) _ (by omega) (by omega) (sm_tr (sm_up (sm_tr hs11 (sm_w s_14 (by intro b k hb; simp only [Bool.or_eq_false_iff, Bool.and_eq_false_iff, beq_eq_false_iff_ne, ne_eq, decide_eq_false_iff_not] at hb ⊢; omega))) rfl) (sm_w s_16 (by intro b k hb; simp only [Bool.or_eq_false_iff, Bool.and_eq_false_iff, beq_eq_false_iff_ne, ne_eq, decide_eq_false_iff_not] at hb ⊢; omega)))
      refine j_lv (lv1 := [(5, .int (nI 1)), (0, .ref (ad 0)), (1, .int (nI N)), (2, .int what), (3, .int 0), (4, .int 0)]) [0, 3, 4, 5, 2, 1] rfl ?_
      exact loop11 (10 + 1) 1 _ (by omega) (by omega) sm_rf
    · refine j_if_ne X 26 (by decide) dX7_start_16 (fun c_19 => False.elim (by revert c_19; decide)) (fun c_19 => ?_)
      refine j_aload_n X 0 rfl rfl dX7_start_19 ?_
      refine j_ldc X (v := (-1000000001)) aw_108 dX7_start_20 ?_
      refine j_callVI X (nn := 1) (As := [.int (-1000000001)]) (st := []) (ci := 7) (by decide) (wE_7 _ rfl) rfl aw_117 aw_118 (c_X7_refuse l D y ad M (-1000000001) 1 (by decide) (by decide)) aw_116 aw_119 aw_2 (by decide +kernel) ⟨by decide, by decide⟩ rfl (Nat.le_of_ble_eq_true rfl) ⟨by decide, by decide⟩ dX7_start_22 ?_
      rintro r_ M1_ ⟨rfl, rfl⟩
      exact j_iret X hr hlocks dX7_start_25 ⟨(by unfold sp_start; (repeat' split) <;> first | rfl | omega | (exfalso; omega)), (sm_up sm_rf rfl)⟩
  · refine j_if_eq X 19 (by decide) dX7_start_7 (fun c_20 => ?_) (fun c_20 => False.elim (by revert c_20; decide))
    refine j_aload_n X 0 rfl rfl dX7_start_19 ?_
    refine j_ldc X (v := (-1000000001)) aw_108 dX7_start_20 ?_
    refine j_callVI X (nn := 1) (As := [.int (-1000000001)]) (st := []) (ci := 7) (by decide) (wE_7 _ rfl) rfl aw_117 aw_118 (c_X7_refuse l D y ad M (-1000000001) 1 (by decide) (by decide)) aw_116 aw_119 aw_2 (by decide +kernel) ⟨by decide, by decide⟩ rfl (Nat.le_of_ble_eq_true rfl) ⟨by decide, by decide⟩ dX7_start_22 ?_
    rintro r_ M1_ ⟨rfl, rfl⟩
    exact j_iret X hr hlocks dX7_start_25 ⟨(by unfold sp_start; (repeat' split) <;> first | rfl | omega | (exfalso; omega)), (sm_up sm_rf rfl)⟩
set_option maxRecDepth 100000 in
set_option maxHeartbeats 4000000 in
theorem c0_X7_pace (l : Launch) (D : va_G) (y : wY) (ad : Nat → Nat) (M : Mem) (hz : Z0 M) (n what : Int32) : MI l D y ad yX7_pace (Cond.code yX7_pace cX7_pace 6 (some .int)) 6 M [.ref (ad 0), .int n, .int what] (fun r M' => sp_pace n what = r ∧ sm (fun b _ => decide (b < 79)) M M') := by
  refine MI_of (by decide) (Nat.le_of_ble_eq_true rfl) ?_
  intro p e s m args below meth c X hr hlocks
  refine j_lv (lv1 := [(0, .ref (ad 0)), (1, .int n), (2, .int what)]) [0, 1, 2] rfl ?_
  refine j_iload_n X 1 rfl rfl dX7_pace_0 ?_
  refine j_iconst X (v := 0) (by decide) dX7_pace_1 ?_
  refine j_bipush X (v := 60) (by decide) dX7_pace_2 ?_
  refine j_callSI X (nn := 3) (As := [.int n, .int 0, .int 60]) (st := []) aw_110 (c_X7_isWithin l D y ad M n 0 60 0 60 (by decide) (by decide)) aw_109 aw_111 aw_2 (by decide +kernel) ⟨by decide, by decide⟩ rfl (Nat.le_of_ble_eq_true rfl) ⟨by decide, by decide⟩ dX7_pace_4 ?_
  rintro r_ M1_ (⟨rfl, rfl, h_1⟩ | ⟨rfl, rfl, h_1⟩)
  · refine j_if_eq X 19 (by decide) dX7_pace_7 (fun c_2 => False.elim (by revert c_2; decide)) (fun c_2 => ?_)
    refine j_iload_n X 2 rfl rfl dX7_pace_10 ?_
    refine j_iconst X (v := 0) (by decide) dX7_pace_11 ?_
    refine j_iconst X (v := 1) (by decide) dX7_pace_12 ?_
    refine j_callSI X (nn := 3) (As := [.int what, .int 0, .int 1]) (st := []) aw_110 (c_X7_isWithin l D y ad M what 0 1 0 1 (by decide) (by decide)) aw_109 aw_111 aw_2 (by decide +kernel) ⟨by decide, by decide⟩ rfl (Nat.le_of_ble_eq_true rfl) ⟨by decide, by decide⟩ dX7_pace_13 ?_
    rintro r_ M1_ (⟨rfl, rfl, h_3⟩ | ⟨rfl, rfl, h_3⟩)
    · refine j_if_ne X 26 (by decide) dX7_pace_16 (fun c_4 => ?_) (fun c_4 => False.elim (by revert c_4; decide))
      obtain ⟨N, hN, rfl⟩ := nI_oft (x := n) (n := 60) (by omega) (by omega) (by decide)
      rw [nI_ti hN (by decide)] at h_1
      refine j_iconst X (v := 0) (by decide) dX7_pace_26 ?_
      refine j_istore_n X [(3, .int 0), (0, .ref (ad 0)), (1, .int (nI N)), (2, .int what)] rfl (by decide) rfl dX7_pace_27 ?_
      refine j_iconst X (v := (-1)) (by decide) dX7_pace_28 ?_
      refine j_istore X [(4, .int (-1)), (3, .int 0), (0, .ref (ad 0)), (1, .int (nI N)), (2, .int what)] (by decide) rfl dX7_pace_29 ?_
      refine j_iconst X (v := 0) (by decide) dX7_pace_31 ?_
      refine j_istore X [(5, .int 0), (4, .int (-1)), (3, .int 0), (0, .ref (ad 0)), (1, .int (nI N)), (2, .int what)] (by decide) rfl dX7_pace_32 ?_
      refine j_iload X 0 rfl dX7_pace_34 ?_
      refine j_bipush X (v := 10) (by decide) dX7_pace_36 ?_
      refine j_icmp_ge X 89 (by decide) dX7_pace_38 (fun c_5 => False.elim (by revert c_5; decide)) (fun c_5 => ?_)
      refine j_aload_n X 3 rfl rfl dX7_pace_41 ?_
      refine j_callVV X (nn := 0) (As := []) (st := []) (ci := 7) (by decide) (wE_7 _ rfl) rfl aw_534 aw_535 (c_think0 l D y ad M hz.1) aw_533 aw_536 aw_2 (by decide +kernel) ⟨by decide, by decide⟩ rfl (Nat.le_of_ble_eq_true rfl) ⟨by decide, by decide⟩ dX7_pace_42 ?_
      rintro M_7 ⟨s_6, s_6_3, s_6_7, s_6_8⟩
      refine j_aload_n X 3 rfl rfl dX7_pace_45 ?_
      refine j_get X (by decide) (wE_7 _ rfl) rfl awF7 2 (by decide) aw_21 rfl (v := .ref (ad 49)) rfl dX7_pace_46 ?_
      refine j_iload X 0 rfl dX7_pace_49 ?_
      refine j_putN X (up M_7 49 5 0) up_o (by decide) (wE_0 _ rfl) rfl awF0 5 (by decide) (wP_0_5 _ _ rfl) tyX0 tyX0_ok nmX0 rfl (ty := .int) (by decide +kernel) rfl rfl (Nat.le_of_ble_eq_true rfl) (List.mem_of_getElem? (i := 17) rfl) rfl dX7_pace_51 ?_
      refine j_aload_n X 3 rfl rfl dX7_pace_54 ?_
      refine j_iload_n X 4 rfl rfl dX7_pace_55 ?_
      refine j_callVV X (nn := 1) (As := [.int (nI N)]) (st := []) (ci := 7) (by decide) (wE_7 _ rfl) rfl aw_545 aw_546 (c_thinkDays0 l D y ad (up M_7 49 5 0) N (by omega) ((show _ = M_7 49 3 from by simp [up]).trans (s_6_3.trans hz.1))) aw_544 aw_547 aw_2 (by decide +kernel) ⟨by decide, by decide⟩ rfl (Nat.le_of_ble_eq_true rfl) ⟨by decide, by decide⟩ dX7_pace_56 ?_
      rintro M_9 s_8
      refine j_aload_n X 3 rfl rfl dX7_pace_59 ?_
      refine j_get X (by decide) (wE_7 _ rfl) rfl awF7 2 (by decide) aw_21 rfl (v := .ref (ad 49)) rfl dX7_pace_60 ?_
      refine j_callVNI X (nn := 0) (As := []) (st := []) (ci := 0) (by decide) (wE_0 _ rfl) rfl aw_462 aw_463 (c_endedMany0_49 l D y ad M_9 ((s_8 49 3 rfl).trans ((show _ = M_7 49 3 from by simp [up]).trans (s_6_3.trans hz.1)))) (List.mem_of_getElem? (i := 31) rfl) aw_464 aw_20 (by decide +kernel) ⟨by decide, by decide⟩ rfl (Nat.le_of_ble_eq_true rfl) ⟨by decide, by decide⟩ dX7_pace_63 ?_
      rintro r_ M1_ ⟨rfl, rfl⟩
      refine j_iload X 1 rfl dX7_pace_66 ?_
      refine j_icmp_le X 83 (by decide) dX7_pace_68 (fun c_10 => False.elim (by revert c_10; decide)) (fun c_10 => ?_)
      refine j_iload X 0 rfl dX7_pace_71 ?_
      refine j_istore_n X [(3, .int 0), (5, .int 0), (4, .int (-1)), (0, .ref (ad 0)), (1, .int (nI N)), (2, .int what)] rfl (by decide) rfl dX7_pace_73 ?_
      refine j_aload_n X 3 rfl rfl dX7_pace_74 ?_
      refine j_get X (by decide) (wE_7 _ rfl) rfl awF7 2 (by decide) aw_21 rfl (v := .ref (ad 49)) rfl dX7_pace_75 ?_
      refine j_callVNI X (nn := 0) (As := []) (st := []) (ci := 0) (by decide) (wE_0 _ rfl) rfl aw_462 aw_463 (c_endedMany0_49 l D y ad M_9 ((s_8 49 3 rfl).trans ((show _ = M_7 49 3 from by simp [up]).trans (s_6_3.trans hz.1)))) (List.mem_of_getElem? (i := 31) rfl) aw_464 aw_20 (by decide +kernel) ⟨by decide, by decide⟩ rfl (Nat.le_of_ble_eq_true rfl) ⟨by decide, by decide⟩ dX7_pace_78 ?_
      rintro r_ M1_ ⟨rfl, rfl⟩
      refine j_istore X [(4, .int 0), (3, .int 0), (5, .int 0), (0, .ref (ad 0)), (1, .int (nI N)), (2, .int what)] (by decide) rfl dX7_pace_81 ?_
      refine j_iinc X (v := 1) 2 [(5, .int 1), (4, .int 0), (3, .int 0), (0, .ref (ad 0)), (1, .int (nI N)), (2, .int what)] rfl (by decide) (by decide) rfl dX7_pace_83 ?_
      refine j_goto X 34 (by decide) dX7_pace_86 ?_
      have loop11 : ∀ (n_11 i_11 : Nat) (M11 : Mem), i_11 ≤ 10 → 10 - i_11 < n_11 → sm (fun b _ => b == 49) M_9 M11 → J p l e (rmN 6) s m args below meth c 0 0 (QI (fun r M' => sp_pace (nI N) what = r ∧ sm (fun b _ => decide (b < 79)) M M') D y ad M s args below) D y ad (va_A (PL y ad M) s.heap.size) 6 M11 34 [(5, .int (nI i_11)), (0, .ref (ad 0)), (1, .int (nI N)), (2, .int what), (3, .int 0), (4, .int 0)] [] := by
        intro n_11
        induction n_11 with
        | zero => intro i_11 M11 h1 h2; exact absurd h2 (by omega)
        | succ n_11 ih11 =>
          intro i_11 M11 h1i_11 h2i_11 hs11
          refine j_iload X 0 rfl dX7_pace_34 ?_
          refine j_bipush X (v := 10) (by decide) dX7_pace_36 ?_
          refine j_icmp_ge X 89 (by decide) dX7_pace_38 (fun c_12 => ?_) (fun c_12 => ?_)
          · have c_12 := (nI_leI (by omega) (by omega)).mp (show nI (10) ≤ nI i_11 from c_12)
            refine j_iload_n X 3 rfl rfl dX7_pace_89 ?_
            refine j_if_ne X 97 (by decide) dX7_pace_90 (fun c_13 => ?_) (fun c_13 => ?_)
            · have qc_13 := ti_ne (n := 0) (by decide) c_13
              refine j_iload X 5 rfl dX7_pace_97 ?_
              exact j_iret X hr hlocks dX7_pace_99 ⟨(by unfold sp_pace; rw [nI_ti hN (by decide)]; (repeat' split) <;> first | rfl | omega | (exfalso; omega)), (sm_tr (sm_tr (sm_up (sm_tr sm_rf (sm_w s_6 (by intro b k hb; simp only [Bool.or_eq_false_iff, Bool.and_eq_false_iff, beq_eq_false_iff_ne, ne_eq, decide_eq_false_iff_not] at hb ⊢; omega))) rfl) (sm_w s_8 (by intro b k hb; simp only [Bool.or_eq_false_iff, Bool.and_eq_false_iff, beq_eq_false_iff_ne, ne_eq, decide_eq_false_iff_not] at hb ⊢; omega))) (sm_w hs11 (by intro b k hb; simp only [Bool.or_eq_false_iff, Bool.and_eq_false_iff, beq_eq_false_iff_ne, ne_eq, decide_eq_false_iff_not] at hb ⊢; omega)))⟩
            · have qc_13 := ti_eq (n := 0) (by decide) c_13
              refine j_iload_n X 4 rfl rfl dX7_pace_93 ?_
              refine j_goto X 99 (by decide) dX7_pace_94 ?_
              exact j_iret X hr hlocks dX7_pace_99 ⟨(by unfold sp_pace; rw [nI_ti hN (by decide)]; (repeat' split) <;> first | rfl | omega | (exfalso; omega)), (sm_tr (sm_tr (sm_up (sm_tr sm_rf (sm_w s_6 (by intro b k hb; simp only [Bool.or_eq_false_iff, Bool.and_eq_false_iff, beq_eq_false_iff_ne, ne_eq, decide_eq_false_iff_not] at hb ⊢; omega))) rfl) (sm_w s_8 (by intro b k hb; simp only [Bool.or_eq_false_iff, Bool.and_eq_false_iff, beq_eq_false_iff_ne, ne_eq, decide_eq_false_iff_not] at hb ⊢; omega))) (sm_w hs11 (by intro b k hb; simp only [Bool.or_eq_false_iff, Bool.and_eq_false_iff, beq_eq_false_iff_ne, ne_eq, decide_eq_false_iff_not] at hb ⊢; omega)))⟩
          · have c_12 : i_11 < 10 := by
              rcases Nat.lt_or_ge i_11 (10) with g | g
              · exact g
              · exact absurd (show nI (10) ≤ nI i_11 from nI_le g (by omega)) c_12
            refine j_aload_n X 1 rfl rfl dX7_pace_41 ?_
            refine j_callVV X (nn := 0) (As := []) (st := []) (ci := 7) (by decide) (wE_7 _ rfl) rfl aw_534 aw_535 (c_think0 l D y ad M11 ((hs11 12 3 rfl).trans ((s_8 12 3 rfl).trans ((show _ = M_7 12 3 from by simp [up]).trans ((s_6 12 3 rfl).trans hz.1))))) aw_533 aw_536 aw_2 (by decide +kernel) ⟨by decide, by decide⟩ rfl (Nat.le_of_ble_eq_true rfl) ⟨by decide, by decide⟩ dX7_pace_42 ?_
            rintro M_15 ⟨s_14, s_14_3, s_14_7, s_14_8⟩
            refine j_aload_n X 1 rfl rfl dX7_pace_45 ?_
            refine j_get X (by decide) (wE_7 _ rfl) rfl awF7 2 (by decide) aw_21 rfl (v := .ref (ad 49)) rfl dX7_pace_46 ?_
            refine j_iload X 0 rfl dX7_pace_49 ?_
            refine j_putN X (up M_15 49 5 (nI i_11)) up_o (by decide) (wE_0 _ rfl) rfl awF0 5 (by decide) (wP_0_5 _ _ rfl) tyX0 tyX0_ok nmX0 rfl (ty := .int) (by decide +kernel) rfl rfl (Nat.le_of_ble_eq_true rfl) (List.mem_of_getElem? (i := 17) rfl) rfl dX7_pace_51 ?_
            refine j_aload_n X 1 rfl rfl dX7_pace_54 ?_
            refine j_iload_n X 2 rfl rfl dX7_pace_55 ?_
            refine j_callVV X (nn := 1) (As := [.int (nI N)]) (st := []) (ci := 7) (by decide) (wE_7 _ rfl) rfl aw_545 aw_546 (c_thinkDays0 l D y ad (up M_15 49 5 (nI i_11)) N (by omega) ((show _ = M_15 49 3 from by simp [up]).trans (s_14_3.trans ((hs11 12 3 rfl).trans ((s_8 12 3 rfl).trans ((show _ = M_7 12 3 from by simp [up]).trans ((s_6 12 3 rfl).trans hz.1))))))) aw_544 aw_547 aw_2 (by decide +kernel) ⟨by decide, by decide⟩ rfl (Nat.le_of_ble_eq_true rfl) ⟨by decide, by decide⟩ dX7_pace_56 ?_
            rintro M_17 s_16
            refine j_aload_n X 1 rfl rfl dX7_pace_59 ?_
            refine j_get X (by decide) (wE_7 _ rfl) rfl awF7 2 (by decide) aw_21 rfl (v := .ref (ad 49)) rfl dX7_pace_60 ?_
            refine j_callVNI X (nn := 0) (As := []) (st := []) (ci := 0) (by decide) (wE_0 _ rfl) rfl aw_462 aw_463 (c_endedMany0_49 l D y ad M_17 ((s_16 49 3 rfl).trans ((show _ = M_15 49 3 from by simp [up]).trans (s_14_3.trans ((hs11 12 3 rfl).trans ((s_8 12 3 rfl).trans ((show _ = M_7 12 3 from by simp [up]).trans ((s_6 12 3 rfl).trans hz.1)))))))) (List.mem_of_getElem? (i := 31) rfl) aw_464 aw_20 (by decide +kernel) ⟨by decide, by decide⟩ rfl (Nat.le_of_ble_eq_true rfl) ⟨by decide, by decide⟩ dX7_pace_63 ?_
            rintro r_ M1_ ⟨rfl, rfl⟩
            refine j_iload X 5 rfl dX7_pace_66 ?_
            refine j_icmp_le X 83 (by decide) dX7_pace_68 (fun c_18 => ?_) (fun c_18 => False.elim (by revert c_18; decide))
            refine j_iinc X (v := (nI (i_11 + 1))) 0 [(5, .int (nI (i_11 + 1))), (0, .ref (ad 0)), (1, .int (nI N)), (2, .int what), (3, .int 0), (4, .int 0)] rfl (show nI i_11 + Int32.ofInt 1 = _ from nI_1 i_11) (by decide) rfl dX7_pace_83 ?_
            refine j_goto X 34 (by decide) dX7_pace_86 ?_
            refine j_lv (lv1 := [(5, .int (nI (i_11 + 1))), (0, .ref (ad 0)), (1, .int (nI N)), (2, .int what), (3, .int 0), (4, .int 0)]) [0, 1, 2, 3, 4, 5] rfl ?_
            exact ih11 (i_11 + 1) _ (by omega) (by omega) (sm_tr (sm_up (sm_tr hs11 (sm_w s_14 (by intro b k hb; simp only [Bool.or_eq_false_iff, Bool.and_eq_false_iff, beq_eq_false_iff_ne, ne_eq, decide_eq_false_iff_not] at hb ⊢; omega))) rfl) (sm_w s_16 (by intro b k hb; simp only [Bool.or_eq_false_iff, Bool.and_eq_false_iff, beq_eq_false_iff_ne, ne_eq, decide_eq_false_iff_not] at hb ⊢; omega)))
      refine j_lv (lv1 := [(5, .int (nI 1)), (0, .ref (ad 0)), (1, .int (nI N)), (2, .int what), (3, .int 0), (4, .int 0)]) [0, 3, 4, 5, 2, 1] rfl ?_
      exact loop11 (10 + 1) 1 _ (by omega) (by omega) sm_rf
    · refine j_if_ne X 26 (by decide) dX7_pace_16 (fun c_19 => False.elim (by revert c_19; decide)) (fun c_19 => ?_)
      refine j_aload_n X 0 rfl rfl dX7_pace_19 ?_
      refine j_ldc X (v := (-1000000001)) aw_108 dX7_pace_20 ?_
      refine j_callVI X (nn := 1) (As := [.int (-1000000001)]) (st := []) (ci := 7) (by decide) (wE_7 _ rfl) rfl aw_117 aw_118 (c_X7_refuse l D y ad M (-1000000001) 1 (by decide) (by decide)) aw_116 aw_119 aw_2 (by decide +kernel) ⟨by decide, by decide⟩ rfl (Nat.le_of_ble_eq_true rfl) ⟨by decide, by decide⟩ dX7_pace_22 ?_
      rintro r_ M1_ ⟨rfl, rfl⟩
      exact j_iret X hr hlocks dX7_pace_25 ⟨(by unfold sp_pace; (repeat' split) <;> first | rfl | omega | (exfalso; omega)), (sm_up sm_rf rfl)⟩
  · refine j_if_eq X 19 (by decide) dX7_pace_7 (fun c_20 => ?_) (fun c_20 => False.elim (by revert c_20; decide))
    refine j_aload_n X 0 rfl rfl dX7_pace_19 ?_
    refine j_ldc X (v := (-1000000001)) aw_108 dX7_pace_20 ?_
    refine j_callVI X (nn := 1) (As := [.int (-1000000001)]) (st := []) (ci := 7) (by decide) (wE_7 _ rfl) rfl aw_117 aw_118 (c_X7_refuse l D y ad M (-1000000001) 1 (by decide) (by decide)) aw_116 aw_119 aw_2 (by decide +kernel) ⟨by decide, by decide⟩ rfl (Nat.le_of_ble_eq_true rfl) ⟨by decide, by decide⟩ dX7_pace_22 ?_
    rintro r_ M1_ ⟨rfl, rfl⟩
    exact j_iret X hr hlocks dX7_pace_25 ⟨(by unfold sp_pace; (repeat' split) <;> first | rfl | omega | (exfalso; omega)), (sm_up sm_rf rfl)⟩
set_option maxRecDepth 100000 in
set_option maxHeartbeats 4000000 in
theorem c0_X7_first (l : Launch) (D : va_G) (y : wY) (ad : Nat → Nat) (M : Mem) (hz : Z0 M) (n what : Int32) : MI l D y ad yX7_first (Cond.code yX7_first cX7_first 6 (some .int)) 6 M [.ref (ad 0), .int n, .int what] (fun r M' => sp_first n what = r ∧ sm (fun b _ => decide (b < 79)) M M') := by
  refine MI_of (by decide) (Nat.le_of_ble_eq_true rfl) ?_
  intro p e s m args below meth c X hr hlocks
  refine j_lv (lv1 := [(0, .ref (ad 0)), (1, .int n), (2, .int what)]) [0, 1, 2] rfl ?_
  refine j_iload_n X 1 rfl rfl dX7_first_0 ?_
  refine j_iconst X (v := 0) (by decide) dX7_first_1 ?_
  refine j_bipush X (v := 60) (by decide) dX7_first_2 ?_
  refine j_callSI X (nn := 3) (As := [.int n, .int 0, .int 60]) (st := []) aw_110 (c_X7_isWithin l D y ad M n 0 60 0 60 (by decide) (by decide)) aw_109 aw_111 aw_2 (by decide +kernel) ⟨by decide, by decide⟩ rfl (Nat.le_of_ble_eq_true rfl) ⟨by decide, by decide⟩ dX7_first_4 ?_
  rintro r_ M1_ (⟨rfl, rfl, h_1⟩ | ⟨rfl, rfl, h_1⟩)
  · refine j_if_eq X 19 (by decide) dX7_first_7 (fun c_2 => False.elim (by revert c_2; decide)) (fun c_2 => ?_)
    refine j_iload_n X 2 rfl rfl dX7_first_10 ?_
    refine j_iconst X (v := 0) (by decide) dX7_first_11 ?_
    refine j_iconst X (v := 1) (by decide) dX7_first_12 ?_
    refine j_callSI X (nn := 3) (As := [.int what, .int 0, .int 1]) (st := []) aw_110 (c_X7_isWithin l D y ad M what 0 1 0 1 (by decide) (by decide)) aw_109 aw_111 aw_2 (by decide +kernel) ⟨by decide, by decide⟩ rfl (Nat.le_of_ble_eq_true rfl) ⟨by decide, by decide⟩ dX7_first_13 ?_
    rintro r_ M1_ (⟨rfl, rfl, h_3⟩ | ⟨rfl, rfl, h_3⟩)
    · refine j_if_ne X 26 (by decide) dX7_first_16 (fun c_4 => ?_) (fun c_4 => False.elim (by revert c_4; decide))
      refine j_iconst X (v := (-1)) (by decide) dX7_first_26 ?_
      refine j_istore_n X [(3, .int (-1)), (0, .ref (ad 0)), (1, .int n), (2, .int what)] rfl (by decide) rfl dX7_first_27 ?_
      refine j_iconst X (v := 0) (by decide) dX7_first_28 ?_
      refine j_istore X [(4, .int 0), (3, .int (-1)), (0, .ref (ad 0)), (1, .int n), (2, .int what)] (by decide) rfl dX7_first_29 ?_
      refine j_iconst X (v := 0) (by decide) dX7_first_31 ?_
      refine j_istore X [(5, .int 0), (4, .int 0), (3, .int (-1)), (0, .ref (ad 0)), (1, .int n), (2, .int what)] (by decide) rfl dX7_first_32 ?_
      refine j_iload X 0 rfl dX7_first_34 ?_
      refine j_aload_n X 3 rfl rfl dX7_first_36 ?_
      refine j_get X (by decide) (wE_7 _ rfl) rfl awF7 0 (by decide) aw_16 rfl (v := .ref (ad 1)) rfl dX7_first_37 ?_
      refine j_getN X (by decide) (wE_6 _ rfl) rfl awF6 2 (by decide) (List.mem_of_getElem? (i := 23) rfl) rfl (v := .ref (ad 12)) rfl dX7_first_40 ?_
      refine j_getN X (by decide) (wE_0 _ rfl) rfl awF0 3 (by decide) (List.mem_of_getElem? (i := 15) rfl) rfl (v := .int (M 12 3)) rfl dX7_first_43 ?_
      refine j_eqi (v := 0) hz.1 ?_
      refine j_icmp_ge X 106 (by decide) dX7_first_46 (fun c_5 => ?_) (fun c_5 => False.elim (by revert c_5; decide))
      refine j_iload_n X 2 rfl rfl dX7_first_106 ?_
      refine j_if_ge X 117 (by decide) dX7_first_107 (fun c_6 => False.elim (by revert c_6; decide)) (fun c_6 => ?_)
      refine j_aload_n X 3 rfl rfl dX7_first_110 ?_
      refine j_ldc X (v := (-1000000002)) aw_560 dX7_first_111 ?_
      refine j_callVI X (nn := 1) (As := [.int (-1000000002)]) (st := []) (ci := 7) (by decide) (wE_7 _ rfl) rfl aw_117 aw_118 (c_X7_refuse l D y ad M (-1000000002) 2 (by decide) (by decide)) aw_116 aw_119 aw_2 (by decide +kernel) ⟨by decide, by decide⟩ rfl (Nat.le_of_ble_eq_true rfl) ⟨by decide, by decide⟩ dX7_first_113 ?_
      rintro r_ M1_ ⟨rfl, rfl⟩
      exact j_iret X hr hlocks dX7_first_116 ⟨(by unfold sp_first; (repeat' split) <;> first | rfl | omega | (exfalso; omega)), (sm_up sm_rf rfl)⟩
    · refine j_if_ne X 26 (by decide) dX7_first_16 (fun c_7 => False.elim (by revert c_7; decide)) (fun c_7 => ?_)
      refine j_aload_n X 0 rfl rfl dX7_first_19 ?_
      refine j_ldc X (v := (-1000000001)) aw_108 dX7_first_20 ?_
      refine j_callVI X (nn := 1) (As := [.int (-1000000001)]) (st := []) (ci := 7) (by decide) (wE_7 _ rfl) rfl aw_117 aw_118 (c_X7_refuse l D y ad M (-1000000001) 1 (by decide) (by decide)) aw_116 aw_119 aw_2 (by decide +kernel) ⟨by decide, by decide⟩ rfl (Nat.le_of_ble_eq_true rfl) ⟨by decide, by decide⟩ dX7_first_22 ?_
      rintro r_ M1_ ⟨rfl, rfl⟩
      exact j_iret X hr hlocks dX7_first_25 ⟨(by unfold sp_first; (repeat' split) <;> first | rfl | omega | (exfalso; omega)), (sm_up sm_rf rfl)⟩
  · refine j_if_eq X 19 (by decide) dX7_first_7 (fun c_8 => ?_) (fun c_8 => False.elim (by revert c_8; decide))
    refine j_aload_n X 0 rfl rfl dX7_first_19 ?_
    refine j_ldc X (v := (-1000000001)) aw_108 dX7_first_20 ?_
    refine j_callVI X (nn := 1) (As := [.int (-1000000001)]) (st := []) (ci := 7) (by decide) (wE_7 _ rfl) rfl aw_117 aw_118 (c_X7_refuse l D y ad M (-1000000001) 1 (by decide) (by decide)) aw_116 aw_119 aw_2 (by decide +kernel) ⟨by decide, by decide⟩ rfl (Nat.le_of_ble_eq_true rfl) ⟨by decide, by decide⟩ dX7_first_22 ?_
    rintro r_ M1_ ⟨rfl, rfl⟩
    exact j_iret X hr hlocks dX7_first_25 ⟨(by unfold sp_first; (repeat' split) <;> first | rfl | omega | (exfalso; omega)), (sm_up sm_rf rfl)⟩
set_option maxRecDepth 100000 in
set_option maxHeartbeats 4000000 in
theorem c0_X7_last (l : Launch) (D : va_G) (y : wY) (ad : Nat → Nat) (M : Mem) (hz : Z0 M) (what : Int32) : MI l D y ad yX7_last (Cond.code yX7_last cX7_last 7 (some .int)) 6 M [.ref (ad 0), .int what] (fun r M' => sp_last what = r ∧ sm (fun b _ => decide (b < 79)) M M') := by
  refine MI_of (by decide) (Nat.le_of_ble_eq_true rfl) ?_
  intro p e s m args below meth c X hr hlocks
  refine j_lv (lv1 := [(0, .ref (ad 0)), (1, .int what)]) [0, 1] rfl ?_
  refine j_iload_n X 1 rfl rfl dX7_last_0 ?_
  refine j_iconst X (v := 0) (by decide) dX7_last_1 ?_
  refine j_iconst X (v := 1) (by decide) dX7_last_2 ?_
  refine j_callSI X (nn := 3) (As := [.int what, .int 0, .int 1]) (st := []) aw_110 (c_X7_isWithin l D y ad M what 0 1 0 1 (by decide) (by decide)) aw_109 aw_111 aw_2 (by decide +kernel) ⟨by decide, by decide⟩ rfl (Nat.le_of_ble_eq_true rfl) ⟨by decide, by decide⟩ dX7_last_3 ?_
  rintro r_ M1_ (⟨rfl, rfl, h_1⟩ | ⟨rfl, rfl, h_1⟩)
  · refine j_if_ne X 16 (by decide) dX7_last_6 (fun c_2 => ?_) (fun c_2 => False.elim (by revert c_2; decide))
    refine j_aload_n X 0 rfl rfl dX7_last_16 ?_
    refine j_callVV X (nn := 0) (As := []) (st := []) (ci := 7) (by decide) (wE_7 _ rfl) rfl aw_534 aw_535 (c_think0 l D y ad M hz.1) aw_533 aw_536 aw_2 (by decide +kernel) ⟨by decide, by decide⟩ rfl (Nat.le_of_ble_eq_true rfl) ⟨by decide, by decide⟩ dX7_last_17 ?_
    rintro M_4 ⟨s_3, s_3_3, s_3_7, s_3_8⟩
    refine j_iconst X (v := (-1)) (by decide) dX7_last_20 ?_
    refine j_istore_n X [(2, .int (-1)), (0, .ref (ad 0)), (1, .int what)] rfl (by decide) rfl dX7_last_21 ?_
    refine j_iconst X (v := 0) (by decide) dX7_last_22 ?_
    refine j_istore_n X [(3, .int 0), (2, .int (-1)), (0, .ref (ad 0)), (1, .int what)] rfl (by decide) rfl dX7_last_23 ?_
    refine j_iconst X (v := 1) (by decide) dX7_last_24 ?_
    refine j_istore X [(4, .int 1), (3, .int 0), (2, .int (-1)), (0, .ref (ad 0)), (1, .int what)] (by decide) rfl dX7_last_25 ?_
    have loop5 : ∀ (n_5 i_5 : Nat) (M5 : Mem), i_5 ≤ 61 → 61 - i_5 < n_5 → sm (fun b k => b == 49 && (k == 4 || k == 6)) M_4 M5 → J p l e (rmN 6) s m args below meth c 0 0 (QI (fun r M' => sp_last what = r ∧ sm (fun b _ => decide (b < 79)) M M') D y ad M s args below) D y ad (va_A (PL y ad M) s.heap.size) 7 M5 27 [(4, .int (nI i_5)), (0, .ref (ad 0)), (1, .int what), (2, .int (-1)), (3, .int 0)] [] := by
      intro n_5
      induction n_5 with
      | zero => intro i_5 M5 h1 h2; exact absurd h2 (by omega)
      | succ n_5 ih5 =>
        intro i_5 M5 h1i_5 h2i_5 hs5
        refine j_iload X 0 rfl dX7_last_27 ?_
        refine j_bipush X (v := 60) (by decide) dX7_last_29 ?_
        refine j_icmp_gt X 85 (by decide) dX7_last_31 (fun c_6 => ?_) (fun c_6 => ?_)
        · refine j_iload_n X 3 rfl rfl dX7_last_85 ?_
          refine j_if_ge X 96 (by decide) dX7_last_86 (fun c_7 => False.elim (by revert c_7; decide)) (fun c_7 => ?_)
          refine j_aload_n X 1 rfl rfl dX7_last_89 ?_
          refine j_ldc X (v := (-1000000002)) aw_560 dX7_last_90 ?_
          refine j_callVI X (nn := 1) (As := [.int (-1000000002)]) (st := []) (ci := 7) (by decide) (wE_7 _ rfl) rfl aw_117 aw_118 (c_X7_refuse l D y ad M5 (-1000000002) 2 (by decide) (by decide)) aw_116 aw_119 aw_2 (by decide +kernel) ⟨by decide, by decide⟩ rfl (Nat.le_of_ble_eq_true rfl) ⟨by decide, by decide⟩ dX7_last_92 ?_
          rintro r_ M1_ ⟨rfl, rfl⟩
          exact j_iret X hr hlocks dX7_last_95 ⟨(by unfold sp_last; (repeat' split) <;> first | rfl | omega | (exfalso; omega)), (sm_up (sm_tr (sm_tr sm_rf (sm_w s_3 (by intro b k hb; simp only [Bool.or_eq_false_iff, Bool.and_eq_false_iff, beq_eq_false_iff_ne, ne_eq, decide_eq_false_iff_not] at hb ⊢; omega))) (sm_w hs5 (by intro b k hb; simp only [Bool.or_eq_false_iff, Bool.and_eq_false_iff, beq_eq_false_iff_ne, ne_eq, decide_eq_false_iff_not] at hb ⊢; omega))) rfl)⟩
        · have c_6 : i_5 < 61 := by
            rcases Nat.lt_or_ge i_5 (61) with g | g
            · exact g
            · exact absurd (show nI 60 < nI i_5 from nI_lt (by omega) (by omega)) c_6
          refine j_aload_n X 1 rfl rfl dX7_last_34 ?_
          refine j_get X (by decide) (wE_7 _ rfl) rfl awF7 2 (by decide) aw_21 rfl (v := .ref (ad 49)) rfl dX7_last_35 ?_
          refine j_callVNI X (nn := 0) (As := []) (st := []) (ci := 0) (by decide) (wE_0 _ rfl) rfl aw_466 aw_467 (c_setEnded0_49 l D y ad M5 ((hs5 49 3 rfl).trans (s_3_3.trans hz.1))) (List.mem_of_getElem? (i := 35) rfl) aw_468 aw_20 (by decide +kernel) ⟨by decide, by decide⟩ rfl (Nat.le_of_ble_eq_true rfl) ⟨by decide, by decide⟩ dX7_last_38 ?_
          rintro r_ M1_ ⟨rfl, rfl⟩
          refine j_istore X [(5, .int 0), (4, .int (nI i_5)), (0, .ref (ad 0)), (1, .int what), (2, .int (-1)), (3, .int 0)] (by decide) rfl dX7_last_41 ?_
          refine j_aload_n X 2 rfl rfl dX7_last_43 ?_
          refine j_get X (by decide) (wE_7 _ rfl) rfl awF7 2 (by decide) aw_21 rfl (v := .ref (ad 49)) rfl dX7_last_44 ?_
          refine j_iconst X (v := 0) (by decide) dX7_last_47 ?_
          refine j_callVNV X (nn := 1) (As := [.int 0]) (st := []) (ci := 0) (by decide) (wE_0 _ rfl) rfl aw_439 aw_440 (c_passDay0_49 l D y ad M5 ((hs5 49 3 rfl).trans (s_3_3.trans hz.1)) 0) (List.mem_of_getElem? (i := 27) rfl) aw_441 aw_20 (by decide +kernel) ⟨by decide, by decide⟩ rfl (Nat.le_of_ble_eq_true rfl) ⟨by decide, by decide⟩ dX7_last_48 ?_
          rintro M_9 s_8
          refine j_aload_n X 2 rfl rfl dX7_last_51 ?_
          refine j_get X (by decide) (wE_7 _ rfl) rfl awF7 2 (by decide) aw_21 rfl (v := .ref (ad 49)) rfl dX7_last_52 ?_
          refine j_callVNI X (nn := 0) (As := []) (st := []) (ci := 0) (by decide) (wE_0 _ rfl) rfl aw_466 aw_467 (c_setEnded0_49 l D y ad M_9 ((s_8 49 3 rfl).trans ((hs5 49 3 rfl).trans (s_3_3.trans hz.1)))) (List.mem_of_getElem? (i := 35) rfl) aw_468 aw_20 (by decide +kernel) ⟨by decide, by decide⟩ rfl (Nat.le_of_ble_eq_true rfl) ⟨by decide, by decide⟩ dX7_last_55 ?_
          rintro r_ M1_ ⟨rfl, rfl⟩
          refine j_iload X 0 rfl dX7_last_58 ?_
          refine j_iconst X (v := (-1)) (by decide) dX7_last_60 ?_
          refine j_ixor X dX7_last_61 ?_
          refine j_eqi (v := (-1)) (by decide) ?_
          refine j_iand X dX7_last_62 ?_
          refine j_eqi (v := 0) (by decide) ?_
          refine j_istore X [(6, .int 0), (5, .int 0), (4, .int (nI i_5)), (0, .ref (ad 0)), (1, .int what), (2, .int (-1)), (3, .int 0)] (by decide) rfl dX7_last_63 ?_
          refine j_iload X 0 rfl dX7_last_65 ?_
          refine j_if_eq X 79 (by decide) dX7_last_67 (fun c_10 => ?_) (fun c_10 => False.elim (by revert c_10; decide))
          refine j_iinc X (v := (nI (i_5 + 1))) 2 [(4, .int (nI (i_5 + 1))), (6, .int 0), (5, .int 0), (0, .ref (ad 0)), (1, .int what), (2, .int (-1)), (3, .int 0)] rfl (show nI i_5 + Int32.ofInt 1 = _ from nI_1 i_5) (by decide) rfl dX7_last_79 ?_
          refine j_goto X 27 (by decide) dX7_last_82 ?_
          refine j_lv (lv1 := [(4, .int (nI (i_5 + 1))), (0, .ref (ad 0)), (1, .int what), (2, .int (-1)), (3, .int 0)]) [0, 3, 4, 5, 6] rfl ?_
          exact ih5 (i_5 + 1) _ (by omega) (by omega) (sm_tr hs5 (sm_w s_8 (by intro b k hb; simp only [Bool.or_eq_false_iff, Bool.and_eq_false_iff, beq_eq_false_iff_ne, ne_eq, decide_eq_false_iff_not] at hb ⊢; omega)))
    refine j_lv (lv1 := [(4, .int (nI 1)), (0, .ref (ad 0)), (1, .int what), (2, .int (-1)), (3, .int 0)]) [0, 3, 4, 2, 1] rfl ?_
    exact loop5 (61 + 1) 1 _ (by omega) (by omega) sm_rf
  · refine j_if_ne X 16 (by decide) dX7_last_6 (fun c_11 => False.elim (by revert c_11; decide)) (fun c_11 => ?_)
    refine j_aload_n X 0 rfl rfl dX7_last_9 ?_
    refine j_ldc X (v := (-1000000001)) aw_108 dX7_last_10 ?_
    refine j_callVI X (nn := 1) (As := [.int (-1000000001)]) (st := []) (ci := 7) (by decide) (wE_7 _ rfl) rfl aw_117 aw_118 (c_X7_refuse l D y ad M (-1000000001) 1 (by decide) (by decide)) aw_116 aw_119 aw_2 (by decide +kernel) ⟨by decide, by decide⟩ rfl (Nat.le_of_ble_eq_true rfl) ⟨by decide, by decide⟩ dX7_last_12 ?_
    rintro r_ M1_ ⟨rfl, rfl⟩
    exact j_iret X hr hlocks dX7_last_15 ⟨(by unfold sp_last; (repeat' split) <;> first | rfl | omega | (exfalso; omega)), (sm_up sm_rf rfl)⟩
set_option maxRecDepth 100000 in
set_option maxHeartbeats 4000000 in
theorem c0_X7_check (l : Launch) (D : va_G) (y : wY) (ad : Nat → Nat) (M : Mem) (hz : Z0 M) : MI l D y ad yX7_check (Cond.code yX7_check cX7_check 3 (some .int)) 6 M [.ref (ad 0)] (fun r M' => sp_check = r ∧ sm (fun b _ => decide (b < 79)) M M') := by
  refine MI_of (by decide) (Nat.le_of_ble_eq_true rfl) ?_
  intro p e s m args below meth c X hr hlocks
  refine j_lv (lv1 := [(0, .ref (ad 0))]) [0] rfl ?_
  refine j_aload_n X 0 rfl rfl dX7_check_0 ?_
  refine j_get X (by decide) (wE_7 _ rfl) rfl awF7 0 (by decide) aw_16 rfl (v := .ref (ad 1)) rfl dX7_check_1 ?_
  refine j_getN X (by decide) (wE_6 _ rfl) rfl awF6 6 (by decide) (List.mem_of_getElem? (i := 27) rfl) rfl (v := .int (M 1 6)) rfl dX7_check_4 ?_
  refine j_eqi (v := 0) hz.2.2.2.2.2.2.2.1 ?_
  refine j_istore_n X [(1, .int 0), (0, .ref (ad 0))] rfl (by decide) rfl dX7_check_7 ?_
  refine j_aload_n X 1 rfl rfl dX7_check_8 ?_
  refine j_get X (by decide) (wE_7 _ rfl) rfl awF7 0 (by decide) aw_16 rfl (v := .ref (ad 1)) rfl dX7_check_9 ?_
  refine j_iconst X (v := 0) (by decide) dX7_check_12 ?_
  refine j_putN X (up M 1 6 0) up_o (by decide) (wE_6 _ rfl) rfl awF6 6 (by decide) (wP_6_6 _ _ rfl) tyX6 tyX6_ok nmX6 rfl (ty := .int) (by decide +kernel) rfl rfl (Nat.le_of_ble_eq_true rfl) (List.mem_of_getElem? (i := 27) rfl) rfl dX7_check_13 ?_
  refine j_aload_n X 1 rfl rfl dX7_check_16 ?_
  refine j_callVV X (nn := 0) (As := []) (st := []) (ci := 7) (by decide) (wE_7 _ rfl) rfl aw_534 aw_535 (c_think0 l D y ad (up M 1 6 0) ((show _ = M 12 3 from by simp [up]).trans hz.1)) aw_533 aw_536 aw_2 (by decide +kernel) ⟨by decide, by decide⟩ rfl (Nat.le_of_ble_eq_true rfl) ⟨by decide, by decide⟩ dX7_check_17 ?_
  rintro M_2 ⟨s_1, s_1_3, s_1_7, s_1_8⟩
  refine j_iconst X (v := 0) (by decide) dX7_check_20 ?_
  refine j_istore_n X [(2, .int 0), (1, .int 0), (0, .ref (ad 0))] rfl (by decide) rfl dX7_check_21 ?_
  refine j_iload_n X 0 rfl rfl dX7_check_22 ?_
  refine j_iload_n X 1 rfl rfl dX7_check_23 ?_
  refine j_icmp_ge X 64 (by decide) dX7_check_24 (fun c_3 => ?_) (fun c_3 => False.elim (by revert c_3; decide))
  refine j_iconst X (v := 0) (by decide) dX7_check_64 ?_
  exact j_iret X hr hlocks dX7_check_65 ⟨(by unfold sp_check; (repeat' split) <;> first | rfl | omega | (exfalso; omega)), (sm_tr (sm_up sm_rf rfl) (sm_w s_1 (by intro b k hb; simp only [Bool.or_eq_false_iff, Bool.and_eq_false_iff, beq_eq_false_iff_ne, ne_eq, decide_eq_false_iff_not] at hb ⊢; omega)))⟩
